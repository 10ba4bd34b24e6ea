theorem dX10_sentencedOf_0 : decode cX10_sentencedOf 0 = .ok (.iconst 0, 1) := by decide +kernel
theorem dX10_sentencedOf_1 : decode cX10_sentencedOf 1 = .ok (.istore_n 3, 1) := by decide +kernel
theorem dX10_sentencedOf_2 : decode cX10_sentencedOf 2 = .ok (.iconst 0, 1) := by decide +kernel
theorem dX10_sentencedOf_3 : decode cX10_sentencedOf 3 = .ok (.istore 4, 2) := by decide +kernel
theorem dX10_sentencedOf_5 : decode cX10_sentencedOf 5 = .ok (.iload 4, 2) := by decide +kernel
theorem dX10_sentencedOf_7 : decode cX10_sentencedOf 7 = .ok (.aload_n 0, 1) := by decide +kernel
theorem dX10_sentencedOf_8 : decode cX10_sentencedOf 8 = .ok (.getfield 297, 3) := by decide +kernel
theorem dX10_sentencedOf_11 : decode cX10_sentencedOf 11 = .ok (.if_icmp .ge 42, 3) := by decide +kernel
theorem dX10_sentencedOf_14 : decode cX10_sentencedOf 14 = .ok (.iload_n 3, 1) := by decide +kernel
theorem dX10_sentencedOf_15 : decode cX10_sentencedOf 15 = .ok (.aload_n 0, 1) := by decide +kernel
theorem dX10_sentencedOf_16 : decode cX10_sentencedOf 16 = .ok (.getfield 49, 3) := by decide +kernel
theorem dX10_sentencedOf_19 : decode cX10_sentencedOf 19 = .ok (.iconst 3, 1) := by decide +kernel
theorem dX10_sentencedOf_20 : decode cX10_sentencedOf 20 = .ok (.iload 4, 2) := by decide +kernel
theorem dX10_sentencedOf_22 : decode cX10_sentencedOf 22 = .ok (.imul, 1) := by decide +kernel
theorem dX10_sentencedOf_23 : decode cX10_sentencedOf 23 = .ok (.iaload, 1) := by decide +kernel
theorem dX10_sentencedOf_24 : decode cX10_sentencedOf 24 = .ok (.iload_n 2, 1) := by decide +kernel
theorem dX10_sentencedOf_25 : decode cX10_sentencedOf 25 = .ok (.if_icmp .ne 19, 3) := by decide +kernel
theorem dX10_sentencedOf_28 : decode cX10_sentencedOf 28 = .ok (.aload_n 1, 1) := by decide +kernel
theorem dX10_sentencedOf_29 : decode cX10_sentencedOf 29 = .ok (.bipush 48, 2) := by decide +kernel
theorem dX10_sentencedOf_31 : decode cX10_sentencedOf 31 = .ok (.iaload, 1) := by decide +kernel
theorem dX10_sentencedOf_32 : decode cX10_sentencedOf 32 = .ok (.iload 4, 2) := by decide +kernel
theorem dX10_sentencedOf_34 : decode cX10_sentencedOf 34 = .ok (.invokestatic 229, 3) := by decide +kernel
theorem dX10_sentencedOf_37 : decode cX10_sentencedOf 37 = .ok (.ifCond .eq 7, 3) := by decide +kernel
theorem dX10_sentencedOf_40 : decode cX10_sentencedOf 40 = .ok (.iconst 1, 1) := by decide +kernel
theorem dX10_sentencedOf_41 : decode cX10_sentencedOf 41 = .ok (.goto 4, 3) := by decide +kernel
theorem dX10_sentencedOf_44 : decode cX10_sentencedOf 44 = .ok (.iconst 0, 1) := by decide +kernel
theorem dX10_sentencedOf_45 : decode cX10_sentencedOf 45 = .ok (.iadd, 1) := by decide +kernel
theorem dX10_sentencedOf_46 : decode cX10_sentencedOf 46 = .ok (.istore_n 3, 1) := by decide +kernel
theorem dX10_sentencedOf_47 : decode cX10_sentencedOf 47 = .ok (.iinc 4 1, 3) := by decide +kernel
theorem dX10_sentencedOf_50 : decode cX10_sentencedOf 50 = .ok (.goto (-45), 3) := by decide +kernel
theorem dX10_sentencedOf_53 : decode cX10_sentencedOf 53 = .ok (.iload_n 3, 1) := by decide +kernel
theorem dX10_sentencedOf_54 : decode cX10_sentencedOf 54 = .ok (.ireturn, 1) := by decide +kernel
theorem dX10_worthNow_0 : decode cX10_worthNow 0 = .ok (.aload_n 0, 1) := by decide +kernel
theorem dX10_worthNow_1 : decode cX10_worthNow 1 = .ok (.iload 4, 2) := by decide +kernel
theorem dX10_worthNow_3 : decode cX10_worthNow 3 = .ok (.aload_n 0, 1) := by decide +kernel
theorem dX10_worthNow_4 : decode cX10_worthNow 4 = .ok (.getfield 43, 3) := by decide +kernel
theorem dX10_worthNow_7 : decode cX10_worthNow 7 = .ok (.iconst 3, 1) := by decide +kernel
theorem dX10_worthNow_8 : decode cX10_worthNow 8 = .ok (.iload_n 2, 1) := by decide +kernel
theorem dX10_worthNow_9 : decode cX10_worthNow 9 = .ok (.imul, 1) := by decide +kernel
theorem dX10_worthNow_10 : decode cX10_worthNow 10 = .ok (.iconst 2, 1) := by decide +kernel
theorem dX10_worthNow_11 : decode cX10_worthNow 11 = .ok (.iadd, 1) := by decide +kernel
theorem dX10_worthNow_12 : decode cX10_worthNow 12 = .ok (.iaload, 1) := by decide +kernel
theorem dX10_worthNow_13 : decode cX10_worthNow 13 = .ok (.aload_n 1, 1) := by decide +kernel
theorem dX10_worthNow_14 : decode cX10_worthNow 14 = .ok (.iload_n 3, 1) := by decide +kernel
theorem dX10_worthNow_15 : decode cX10_worthNow 15 = .ok (.invokestatic 334, 3) := by decide +kernel
theorem dX10_worthNow_18 : decode cX10_worthNow 18 = .ok (.aload_n 1, 1) := by decide +kernel
theorem dX10_worthNow_19 : decode cX10_worthNow 19 = .ok (.bipush 36, 2) := by decide +kernel
theorem dX10_worthNow_21 : decode cX10_worthNow 21 = .ok (.iconst 2, 1) := by decide +kernel
theorem dX10_worthNow_22 : decode cX10_worthNow 22 = .ok (.iload_n 3, 1) := by decide +kernel
theorem dX10_worthNow_23 : decode cX10_worthNow 23 = .ok (.imul, 1) := by decide +kernel
theorem dX10_worthNow_24 : decode cX10_worthNow 24 = .ok (.iadd, 1) := by decide +kernel
theorem dX10_worthNow_25 : decode cX10_worthNow 25 = .ok (.iconst 1, 1) := by decide +kernel
theorem dX10_worthNow_26 : decode cX10_worthNow 26 = .ok (.iadd, 1) := by decide +kernel
theorem dX10_worthNow_27 : decode cX10_worthNow 27 = .ok (.iaload, 1) := by decide +kernel
theorem dX10_worthNow_28 : decode cX10_worthNow 28 = .ok (.aload_n 0, 1) := by decide +kernel
theorem dX10_worthNow_29 : decode cX10_worthNow 29 = .ok (.aload_n 1, 1) := by decide +kernel
theorem dX10_worthNow_30 : decode cX10_worthNow 30 = .ok (.iload_n 2, 1) := by decide +kernel
theorem dX10_worthNow_31 : decode cX10_worthNow 31 = .ok (.invokevirtual 338, 3) := by decide +kernel
theorem dX10_worthNow_34 : decode cX10_worthNow 34 = .ok (.aload_n 1, 1) := by decide +kernel
theorem dX10_worthNow_35 : decode cX10_worthNow 35 = .ok (.bipush 51, 2) := by decide +kernel
theorem dX10_worthNow_37 : decode cX10_worthNow 37 = .ok (.iaload, 1) := by decide +kernel
theorem dX10_worthNow_38 : decode cX10_worthNow 38 = .ok (.invokevirtual 341, 3) := by decide +kernel
theorem dX10_worthNow_41 : decode cX10_worthNow 41 = .ok (.ireturn, 1) := by decide +kernel
theorem dX10_crime_0 : decode cX10_crime 0 = .ok (.aload_n 0, 1) := by decide +kernel
theorem dX10_crime_1 : decode cX10_crime 1 = .ok (.iconst 0, 1) := by decide +kernel
theorem dX10_crime_2 : decode cX10_crime 2 = .ok (.putfield 96, 3) := by decide +kernel
theorem dX10_crime_5 : decode cX10_crime 5 = .ok (.aload_n 0, 1) := by decide +kernel
theorem dX10_crime_6 : decode cX10_crime 6 = .ok (.iload_n 1, 1) := by decide +kernel
theorem dX10_crime_7 : decode cX10_crime 7 = .ok (.iload_n 2, 1) := by decide +kernel
theorem dX10_crime_8 : decode cX10_crime 8 = .ok (.invokevirtual 393, 3) := by decide +kernel
theorem dX10_crime_11 : decode cX10_crime 11 = .ok (.ifCond .eq 15, 3) := by decide +kernel
theorem dX10_crime_14 : decode cX10_crime 14 = .ok (.iload_n 3, 1) := by decide +kernel
theorem dX10_crime_15 : decode cX10_crime 15 = .ok (.i2l, 1) := by decide +kernel
theorem dX10_crime_16 : decode cX10_crime 16 = .ok (.lconst 1, 1) := by decide +kernel
theorem dX10_crime_17 : decode cX10_crime 17 = .ok (.ldc2_w 420, 3) := by decide +kernel
theorem dX10_crime_20 : decode cX10_crime 20 = .ok (.invokestatic 217, 3) := by decide +kernel
theorem dX10_crime_23 : decode cX10_crime 23 = .ok (.ifCond .ne 5, 3) := by decide +kernel
theorem dX10_crime_26 : decode cX10_crime 26 = .ok (.iconst (-1), 1) := by decide +kernel
theorem dX10_crime_27 : decode cX10_crime 27 = .ok (.ireturn, 1) := by decide +kernel
theorem dX10_crime_28 : decode cX10_crime 28 = .ok (.iconst 1, 1) := by decide +kernel
theorem dX10_crime_29 : decode cX10_crime 29 = .ok (.istore 4, 2) := by decide +kernel
theorem dX10_crime_31 : decode cX10_crime 31 = .ok (.iload 4, 2) := by decide +kernel
theorem dX10_crime_33 : decode cX10_crime 33 = .ok (.bipush 9, 2) := by decide +kernel
theorem dX10_crime_35 : decode cX10_crime 35 = .ok (.if_icmp .gt 28, 3) := by decide +kernel
theorem dX10_crime_38 : decode cX10_crime 38 = .ok (.aload_n 0, 1) := by decide +kernel
theorem dX10_crime_39 : decode cX10_crime 39 = .ok (.aload_n 0, 1) := by decide +kernel
theorem dX10_crime_40 : decode cX10_crime 40 = .ok (.getfield 61, 3) := by decide +kernel
theorem dX10_crime_43 : decode cX10_crime 43 = .ok (.iload_n 1, 1) := by decide +kernel
theorem dX10_crime_44 : decode cX10_crime 44 = .ok (.iload_n 2, 1) := by decide +kernel
theorem dX10_crime_45 : decode cX10_crime 45 = .ok (.iload 4, 2) := by decide +kernel
theorem dX10_crime_47 : decode cX10_crime 47 = .ok (.invokevirtual 374, 3) := by decide +kernel
theorem dX10_crime_50 : decode cX10_crime 50 = .ok (.iload_n 3, 1) := by decide +kernel
theorem dX10_crime_51 : decode cX10_crime 51 = .ok (.if_icmp .lt 6, 3) := by decide +kernel
theorem dX10_crime_54 : decode cX10_crime 54 = .ok (.iload 4, 2) := by decide +kernel
theorem dX10_crime_56 : decode cX10_crime 56 = .ok (.ireturn, 1) := by decide +kernel
theorem dX10_crime_57 : decode cX10_crime 57 = .ok (.iinc 4 1, 3) := by decide +kernel
theorem dX10_crime_60 : decode cX10_crime 60 = .ok (.goto (-29), 3) := by decide +kernel
theorem dX10_crime_63 : decode cX10_crime 63 = .ok (.iconst (-1), 1) := by decide +kernel
theorem dX10_crime_64 : decode cX10_crime 64 = .ok (.ireturn, 1) := by decide +kernel
theorem dX10_digit_0 : decode cX10_digit 0 = .ok (.aload_n 0, 1) := by decide +kernel
theorem dX10_digit_1 : decode cX10_digit 1 = .ok (.invokevirtual 138, 3) := by decide +kernel
theorem dX10_digit_4 : decode cX10_digit 4 = .ok (.istore_n 1, 1) := by decide +kernel
theorem dX10_digit_5 : decode cX10_digit 5 = .ok (.aload_n 0, 1) := by decide +kernel
theorem dX10_digit_6 : decode cX10_digit 6 = .ok (.invokevirtual 168, 3) := by decide +kernel
theorem dX10_digit_9 : decode cX10_digit 9 = .ok (.ifCond .ne 10, 3) := by decide +kernel
theorem dX10_digit_12 : decode cX10_digit 12 = .ok (.aload_n 0, 1) := by decide +kernel
theorem dX10_digit_13 : decode cX10_digit 13 = .ok (.invokevirtual 134, 3) := by decide +kernel
theorem dX10_digit_16 : decode cX10_digit 16 = .ok (.pop, 1) := by decide +kernel
theorem dX10_digit_17 : decode cX10_digit 17 = .ok (.iconst 0, 1) := by decide +kernel
theorem dX10_digit_18 : decode cX10_digit 18 = .ok (.ireturn, 1) := by decide +kernel
theorem dX10_digit_19 : decode cX10_digit 19 = .ok (.aload_n 0, 1) := by decide +kernel
theorem dX10_digit_20 : decode cX10_digit 20 = .ok (.dup, 1) := by decide +kernel
theorem dX10_digit_21 : decode cX10_digit 21 = .ok (.getfield 119, 3) := by decide +kernel
theorem dX10_digit_24 : decode cX10_digit 24 = .ok (.iconst 1, 1) := by decide +kernel
theorem dX10_digit_25 : decode cX10_digit 25 = .ok (.iadd, 1) := by decide +kernel
theorem dX10_digit_26 : decode cX10_digit 26 = .ok (.putfield 119, 3) := by decide +kernel
theorem dX10_digit_29 : decode cX10_digit 29 = .ok (.iload_n 1, 1) := by decide +kernel
theorem dX10_digit_30 : decode cX10_digit 30 = .ok (.bipush 48, 2) := by decide +kernel
theorem dX10_digit_32 : decode cX10_digit 32 = .ok (.isub, 1) := by decide +kernel
theorem dX10_digit_33 : decode cX10_digit 33 = .ok (.ireturn, 1) := by decide +kernel
theorem dX10_draw_0 : decode cX10_draw 0 = .ok (.aload_n 0, 1) := by decide +kernel
theorem dX10_draw_1 : decode cX10_draw 1 = .ok (.aload_n 0, 1) := by decide +kernel
theorem dX10_draw_2 : decode cX10_draw 2 = .ok (.getfield 412, 3) := by decide +kernel
theorem dX10_draw_5 : decode cX10_draw 5 = .ok (.ldc2_w 416, 3) := by decide +kernel
theorem dX10_draw_8 : decode cX10_draw 8 = .ok (.lmul, 1) := by decide +kernel
theorem dX10_draw_9 : decode cX10_draw 9 = .ok (.ldc2_w 418, 3) := by decide +kernel
theorem dX10_draw_12 : decode cX10_draw 12 = .ok (.ladd, 1) := by decide +kernel
theorem dX10_draw_13 : decode cX10_draw 13 = .ok (.putfield 412, 3) := by decide +kernel
theorem dX10_draw_16 : decode cX10_draw 16 = .ok (.aload_n 0, 1) := by decide +kernel
theorem dX10_draw_17 : decode cX10_draw 17 = .ok (.getfield 412, 3) := by decide +kernel
theorem dX10_draw_20 : decode cX10_draw 20 = .ok (.bipush 33, 2) := by decide +kernel
theorem dX10_draw_22 : decode cX10_draw 22 = .ok (.lushr, 1) := by decide +kernel
theorem dX10_draw_23 : decode cX10_draw 23 = .ok (.iload_n 1, 1) := by decide +kernel
theorem dX10_draw_24 : decode cX10_draw 24 = .ok (.i2l, 1) := by decide +kernel
theorem dX10_draw_25 : decode cX10_draw 25 = .ok (.lrem, 1) := by decide +kernel
theorem dX10_draw_26 : decode cX10_draw 26 = .ok (.l2i, 1) := by decide +kernel
theorem dX10_draw_27 : decode cX10_draw 27 = .ok (.ireturn, 1) := by decide +kernel
theorem dX10_end_0 : decode cX10_end 0 = .ok (.aload_n 0, 1) := by decide +kernel
theorem dX10_end_1 : decode cX10_end 1 = .ok (.iconst 0, 1) := by decide +kernel
theorem dX10_end_2 : decode cX10_end 2 = .ok (.putfield 96, 3) := by decide +kernel
theorem dX10_end_5 : decode cX10_end 5 = .ok (.iload_n 1, 1) := by decide +kernel
theorem dX10_end_6 : decode cX10_end 6 = .ok (.ifCond .lt 11, 3) := by decide +kernel
theorem dX10_end_9 : decode cX10_end 9 = .ok (.iload_n 1, 1) := by decide +kernel
theorem dX10_end_10 : decode cX10_end 10 = .ok (.aload_n 0, 1) := by decide +kernel
theorem dX10_end_11 : decode cX10_end 11 = .ok (.getfield 109, 3) := by decide +kernel
theorem dX10_end_14 : decode cX10_end 14 = .ok (.if_icmp .le 5, 3) := by decide +kernel
theorem dX10_end_17 : decode cX10_end 17 = .ok (.iconst 0, 1) := by decide +kernel
theorem dX10_end_18 : decode cX10_end 18 = .ok (.ireturn, 1) := by decide +kernel
theorem dX10_end_19 : decode cX10_end 19 = .ok (.aload_n 0, 1) := by decide +kernel
theorem dX10_end_20 : decode cX10_end 20 = .ok (.iload_n 1, 1) := by decide +kernel
theorem dX10_end_21 : decode cX10_end 21 = .ok (.putfield 109, 3) := by decide +kernel
theorem dX10_end_24 : decode cX10_end 24 = .ok (.iconst 1, 1) := by decide +kernel
theorem dX10_end_25 : decode cX10_end 25 = .ok (.ireturn, 1) := by decide +kernel
theorem dX10_evening_0 : decode cX10_evening 0 = .ok (.aload_n 0, 1) := by decide +kernel
theorem dX10_evening_1 : decode cX10_evening 1 = .ok (.iconst 0, 1) := by decide +kernel
theorem dX10_evening_2 : decode cX10_evening 2 = .ok (.putfield 96, 3) := by decide +kernel
theorem dX10_evening_5 : decode cX10_evening 5 = .ok (.aload_n 0, 1) := by decide +kernel
theorem dX10_evening_6 : decode cX10_evening 6 = .ok (.getfield 294, 3) := by decide +kernel
theorem dX10_evening_9 : decode cX10_evening 9 = .ok (.ifCond .eq 16, 3) := by decide +kernel
theorem dX10_evening_12 : decode cX10_evening 12 = .ok (.aload_n 0, 1) := by decide +kernel
theorem dX10_evening_13 : decode cX10_evening 13 = .ok (.getfield 61, 3) := by decide +kernel
theorem dX10_evening_16 : decode cX10_evening 16 = .ok (.bipush 51, 2) := by decide +kernel
theorem dX10_evening_18 : decode cX10_evening 18 = .ok (.iaload, 1) := by decide +kernel
theorem dX10_evening_19 : decode cX10_evening 19 = .ok (.sipush 999, 3) := by decide +kernel
theorem dX10_evening_22 : decode cX10_evening 22 = .ok (.if_icmp .ne 5, 3) := by decide +kernel
theorem dX10_evening_25 : decode cX10_evening 25 = .ok (.iconst (-1), 1) := by decide +kernel
theorem dX10_evening_26 : decode cX10_evening 26 = .ok (.ireturn, 1) := by decide +kernel
theorem dX10_evening_27 : decode cX10_evening 27 = .ok (.aload_n 0, 1) := by decide +kernel
theorem dX10_evening_28 : decode cX10_evening 28 = .ok (.invokevirtual 384, 3) := by decide +kernel
theorem dX10_evening_31 : decode cX10_evening 31 = .ok (.aload_n 0, 1) := by decide +kernel
theorem dX10_evening_32 : decode cX10_evening 32 = .ok (.aload_n 0, 1) := by decide +kernel
theorem dX10_evening_33 : decode cX10_evening 33 = .ok (.getfield 61, 3) := by decide +kernel
theorem dX10_evening_36 : decode cX10_evening 36 = .ok (.iconst 0, 1) := by decide +kernel
theorem dX10_evening_37 : decode cX10_evening 37 = .ok (.invokevirtual 390, 3) := by decide +kernel
theorem dX10_evening_40 : decode cX10_evening 40 = .ok (.ireturn, 1) := by decide +kernel
theorem dX10_isWhole_0 : decode cX10_isWhole 0 = .ok (.iconst 0, 1) := by decide +kernel
theorem dX10_isWhole_1 : decode cX10_isWhole 1 = .ok (.istore_n 1, 1) := by decide +kernel
theorem dX10_isWhole_2 : decode cX10_isWhole 2 = .ok (.iload_n 1, 1) := by decide +kernel
theorem dX10_isWhole_3 : decode cX10_isWhole 3 = .ok (.aload_n 0, 1) := by decide +kernel
theorem dX10_isWhole_4 : decode cX10_isWhole 4 = .ok (.getfield 248, 3) := by decide +kernel
theorem dX10_isWhole_7 : decode cX10_isWhole 7 = .ok (.if_icmp .ge 52, 3) := by decide +kernel
theorem dX10_isWhole_10 : decode cX10_isWhole 10 = .ok (.aload_n 0, 1) := by decide +kernel
theorem dX10_isWhole_11 : decode cX10_isWhole 11 = .ok (.getfield 52, 3) := by decide +kernel
theorem dX10_isWhole_14 : decode cX10_isWhole 14 = .ok (.iconst 3, 1) := by decide +kernel
theorem dX10_isWhole_15 : decode cX10_isWhole 15 = .ok (.iload_n 1, 1) := by decide +kernel
theorem dX10_isWhole_16 : decode cX10_isWhole 16 = .ok (.imul, 1) := by decide +kernel
theorem dX10_isWhole_17 : decode cX10_isWhole 17 = .ok (.iaload, 1) := by decide +kernel
theorem dX10_isWhole_18 : decode cX10_isWhole 18 = .ok (.istore_n 2, 1) := by decide +kernel
theorem dX10_isWhole_19 : decode cX10_isWhole 19 = .ok (.aload_n 0, 1) := by decide +kernel
theorem dX10_isWhole_20 : decode cX10_isWhole 20 = .ok (.getfield 52, 3) := by decide +kernel
theorem dX10_isWhole_23 : decode cX10_isWhole 23 = .ok (.iconst 3, 1) := by decide +kernel
theorem dX10_isWhole_24 : decode cX10_isWhole 24 = .ok (.iload_n 1, 1) := by decide +kernel
theorem dX10_isWhole_25 : decode cX10_isWhole 25 = .ok (.imul, 1) := by decide +kernel
theorem dX10_isWhole_26 : decode cX10_isWhole 26 = .ok (.iconst 1, 1) := by decide +kernel
theorem dX10_isWhole_27 : decode cX10_isWhole 27 = .ok (.iadd, 1) := by decide +kernel
theorem dX10_isWhole_28 : decode cX10_isWhole 28 = .ok (.iaload, 1) := by decide +kernel
theorem dX10_isWhole_29 : decode cX10_isWhole 29 = .ok (.istore_n 3, 1) := by decide +kernel
theorem dX10_isWhole_30 : decode cX10_isWhole 30 = .ok (.iload_n 2, 1) := by decide +kernel
theorem dX10_isWhole_31 : decode cX10_isWhole 31 = .ok (.aload_n 0, 1) := by decide +kernel
theorem dX10_isWhole_32 : decode cX10_isWhole 32 = .ok (.getfield 245, 3) := by decide +kernel
theorem dX10_isWhole_35 : decode cX10_isWhole 35 = .ok (.if_icmp .ge 16, 3) := by decide +kernel
theorem dX10_isWhole_38 : decode cX10_isWhole 38 = .ok (.iload_n 3, 1) := by decide +kernel
theorem dX10_isWhole_39 : decode cX10_isWhole 39 = .ok (.aload_n 0, 1) := by decide +kernel
theorem dX10_isWhole_40 : decode cX10_isWhole 40 = .ok (.getfield 245, 3) := by decide +kernel
theorem dX10_isWhole_43 : decode cX10_isWhole 43 = .ok (.if_icmp .ge 8, 3) := by decide +kernel
theorem dX10_isWhole_46 : decode cX10_isWhole 46 = .ok (.iload_n 2, 1) := by decide +kernel
theorem dX10_isWhole_47 : decode cX10_isWhole 47 = .ok (.iload_n 3, 1) := by decide +kernel
theorem dX10_isWhole_48 : decode cX10_isWhole 48 = .ok (.if_icmp .ne 5, 3) := by decide +kernel
theorem dX10_isWhole_51 : decode cX10_isWhole 51 = .ok (.iconst 0, 1) := by decide +kernel
theorem dX10_isWhole_52 : decode cX10_isWhole 52 = .ok (.ireturn, 1) := by decide +kernel
theorem dX10_isWhole_53 : decode cX10_isWhole 53 = .ok (.iinc 1 1, 3) := by decide +kernel
theorem dX10_isWhole_56 : decode cX10_isWhole 56 = .ok (.goto (-54), 3) := by decide +kernel
theorem dX10_isWhole_59 : decode cX10_isWhole 59 = .ok (.aload_n 0, 1) := by decide +kernel
theorem dX10_isWhole_60 : decode cX10_isWhole 60 = .ok (.getfield 245, 3) := by decide +kernel
theorem dX10_isWhole_63 : decode cX10_isWhole 63 = .ok (.iconst 1, 1) := by decide +kernel
theorem dX10_isWhole_64 : decode cX10_isWhole 64 = .ok (.if_icmp .le 7, 3) := by decide +kernel
theorem dX10_isWhole_67 : decode cX10_isWhole 67 = .ok (.iconst 1, 1) := by decide +kernel
theorem dX10_isWhole_68 : decode cX10_isWhole 68 = .ok (.goto 4, 3) := by decide +kernel
theorem dX10_isWhole_71 : decode cX10_isWhole 71 = .ok (.iconst 0, 1) := by decide +kernel
theorem dX10_isWhole_72 : decode cX10_isWhole 72 = .ok (.ireturn, 1) := by decide +kernel
theorem dX10_leastOf_0 : decode cX10_leastOf 0 = .ok (.iload_n 0, 1) := by decide +kernel
theorem dX10_leastOf_1 : decode cX10_leastOf 1 = .ok (.bipush 115, 2) := by decide +kernel
theorem dX10_leastOf_3 : decode cX10_leastOf 3 = .ok (.if_icmp .ne 7, 3) := by decide +kernel
theorem dX10_leastOf_6 : decode cX10_leastOf 6 = .ok (.iload_n 1, 1) := by decide +kernel
theorem dX10_leastOf_7 : decode cX10_leastOf 7 = .ok (.ifCond .eq 14, 3) := by decide +kernel
theorem dX10_leastOf_10 : decode cX10_leastOf 10 = .ok (.iload_n 0, 1) := by decide +kernel
theorem dX10_leastOf_11 : decode cX10_leastOf 11 = .ok (.bipush 119, 2) := by decide +kernel
theorem dX10_leastOf_13 : decode cX10_leastOf 13 = .ok (.if_icmp .ne 12, 3) := by decide +kernel
theorem dX10_leastOf_16 : decode cX10_leastOf 16 = .ok (.iload_n 1, 1) := by decide +kernel
theorem dX10_leastOf_17 : decode cX10_leastOf 17 = .ok (.iconst 2, 1) := by decide +kernel
theorem dX10_leastOf_18 : decode cX10_leastOf 18 = .ok (.if_icmp .ne 7, 3) := by decide +kernel
theorem dX10_leastOf_21 : decode cX10_leastOf 21 = .ok (.iconst 1, 1) := by decide +kernel
theorem dX10_leastOf_22 : decode cX10_leastOf 22 = .ok (.goto 4, 3) := by decide +kernel
theorem dX10_leastOf_25 : decode cX10_leastOf 25 = .ok (.iconst 0, 1) := by decide +kernel
theorem dX10_leastOf_26 : decode cX10_leastOf 26 = .ok (.ireturn, 1) := by decide +kernel
theorem dX10_mostOf_0 : decode cX10_mostOf 0 = .ok (.iload_n 0, 1) := by decide +kernel
theorem dX10_mostOf_1 : decode cX10_mostOf 1 = .ok (.bipush 115, 2) := by decide +kernel
theorem dX10_mostOf_3 : decode cX10_mostOf 3 = .ok (.if_icmp .ne 15, 3) := by decide +kernel
theorem dX10_mostOf_6 : decode cX10_mostOf 6 = .ok (.iload_n 1, 1) := by decide +kernel
theorem dX10_mostOf_7 : decode cX10_mostOf 7 = .ok (.ifCond .ne 8, 3) := by decide +kernel
theorem dX10_mostOf_10 : decode cX10_mostOf 10 = .ok (.bipush 30, 2) := by decide +kernel
theorem dX10_mostOf_12 : decode cX10_mostOf 12 = .ok (.goto 5, 3) := by decide +kernel
theorem dX10_mostOf_15 : decode cX10_mostOf 15 = .ok (.bipush 99, 2) := by decide +kernel
theorem dX10_mostOf_17 : decode cX10_mostOf 17 = .ok (.ireturn, 1) := by decide +kernel
theorem dX10_mostOf_18 : decode cX10_mostOf 18 = .ok (.iload_n 0, 1) := by decide +kernel
theorem dX10_mostOf_19 : decode cX10_mostOf 19 = .ok (.bipush 119, 2) := by decide +kernel
theorem dX10_mostOf_21 : decode cX10_mostOf 21 = .ok (.if_icmp .ne 12, 3) := by decide +kernel
theorem dX10_mostOf_24 : decode cX10_mostOf 24 = .ok (.iload_n 1, 1) := by decide +kernel
theorem dX10_mostOf_25 : decode cX10_mostOf 25 = .ok (.iconst 2, 1) := by decide +kernel
theorem dX10_mostOf_26 : decode cX10_mostOf 26 = .ok (.if_icmp .ge 7, 3) := by decide +kernel
theorem dX10_mostOf_29 : decode cX10_mostOf 29 = .ok (.iconst 5, 1) := by decide +kernel
theorem dX10_mostOf_30 : decode cX10_mostOf 30 = .ok (.goto 5, 3) := by decide +kernel
theorem dX10_mostOf_33 : decode cX10_mostOf 33 = .ok (.bipush 9, 2) := by decide +kernel
theorem dX10_mostOf_35 : decode cX10_mostOf 35 = .ok (.ireturn, 1) := by decide +kernel
theorem dX10_here_0 : decode cX10_here 0 = .ok (.aload_n 0, 1) := by decide +kernel
theorem dX10_here_1 : decode cX10_here 1 = .ok (.getfield 119, 3) := by decide +kernel
theorem dX10_here_4 : decode cX10_here 4 = .ok (.aload_n 0, 1) := by decide +kernel
theorem dX10_here_5 : decode cX10_here 5 = .ok (.getfield 122, 3) := by decide +kernel
theorem dX10_here_8 : decode cX10_here 8 = .ok (.if_icmp .ge 24, 3) := by decide +kernel
theorem dX10_here_11 : decode cX10_here 11 = .ok (.aload_n 0, 1) := by decide +kernel
theorem dX10_here_12 : decode cX10_here 12 = .ok (.getfield 23, 3) := by decide +kernel
theorem dX10_here_15 : decode cX10_here 15 = .ok (.aload_n 0, 1) := by decide +kernel
theorem dX10_here_16 : decode cX10_here 16 = .ok (.getfield 125, 3) := by decide +kernel
theorem dX10_here_19 : decode cX10_here 19 = .ok (.aload_n 0, 1) := by decide +kernel
theorem dX10_here_20 : decode cX10_here 20 = .ok (.getfield 119, 3) := by decide +kernel
theorem dX10_here_23 : decode cX10_here 23 = .ok (.iadd, 1) := by decide +kernel
theorem dX10_here_24 : decode cX10_here 24 = .ok (.baload, 1) := by decide +kernel
theorem dX10_here_25 : decode cX10_here 25 = .ok (.sipush 255, 3) := by decide +kernel
theorem dX10_here_28 : decode cX10_here 28 = .ok (.iand, 1) := by decide +kernel
theorem dX10_here_29 : decode cX10_here 29 = .ok (.goto 4, 3) := by decide +kernel
theorem dX10_here_32 : decode cX10_here 32 = .ok (.iconst (-1), 1) := by decide +kernel
theorem dX10_here_33 : decode cX10_here 33 = .ok (.ireturn, 1) := by decide +kernel
theorem dX10_number_0 : decode cX10_number 0 = .ok (.aload_n 0, 1) := by decide +kernel
theorem dX10_number_1 : decode cX10_number 1 = .ok (.invokevirtual 138, 3) := by decide +kernel
theorem dX10_number_4 : decode cX10_number 4 = .ok (.istore_n 3, 1) := by decide +kernel
theorem dX10_number_5 : decode cX10_number 5 = .ok (.aload_n 0, 1) := by decide +kernel
theorem dX10_number_6 : decode cX10_number 6 = .ok (.invokevirtual 168, 3) := by decide +kernel
theorem dX10_number_9 : decode cX10_number 9 = .ok (.ifCond .ne 10, 3) := by decide +kernel
theorem dX10_number_12 : decode cX10_number 12 = .ok (.aload_n 0, 1) := by decide +kernel
theorem dX10_number_13 : decode cX10_number 13 = .ok (.invokevirtual 134, 3) := by decide +kernel
theorem dX10_number_16 : decode cX10_number 16 = .ok (.pop, 1) := by decide +kernel
theorem dX10_number_17 : decode cX10_number 17 = .ok (.iconst 0, 1) := by decide +kernel
theorem dX10_number_18 : decode cX10_number 18 = .ok (.ireturn, 1) := by decide +kernel
theorem dX10_number_19 : decode cX10_number 19 = .ok (.iload_n 3, 1) := by decide +kernel
theorem dX10_number_20 : decode cX10_number 20 = .ok (.bipush 48, 2) := by decide +kernel
theorem dX10_number_22 : decode cX10_number 22 = .ok (.isub, 1) := by decide +kernel
theorem dX10_number_23 : decode cX10_number 23 = .ok (.istore 4, 2) := by decide +kernel
theorem dX10_number_25 : decode cX10_number 25 = .ok (.aload_n 0, 1) := by decide +kernel
theorem dX10_number_26 : decode cX10_number 26 = .ok (.dup, 1) := by decide +kernel
theorem dX10_number_27 : decode cX10_number 27 = .ok (.getfield 119, 3) := by decide +kernel
theorem dX10_number_30 : decode cX10_number 30 = .ok (.iconst 1, 1) := by decide +kernel
theorem dX10_number_31 : decode cX10_number 31 = .ok (.iadd, 1) := by decide +kernel
theorem dX10_number_32 : decode cX10_number 32 = .ok (.putfield 119, 3) := by decide +kernel
theorem dX10_number_35 : decode cX10_number 35 = .ok (.aload_n 0, 1) := by decide +kernel
theorem dX10_number_36 : decode cX10_number 36 = .ok (.invokevirtual 168, 3) := by decide +kernel
theorem dX10_number_39 : decode cX10_number 39 = .ok (.ifCond .eq 28, 3) := by decide +kernel
theorem dX10_number_42 : decode cX10_number 42 = .ok (.bipush 10, 2) := by decide +kernel
theorem dX10_number_44 : decode cX10_number 44 = .ok (.iload 4, 2) := by decide +kernel
theorem dX10_number_46 : decode cX10_number 46 = .ok (.imul, 1) := by decide +kernel
theorem dX10_number_47 : decode cX10_number 47 = .ok (.aload_n 0, 1) := by decide +kernel
theorem dX10_number_48 : decode cX10_number 48 = .ok (.invokevirtual 214, 3) := by decide +kernel
theorem dX10_number_51 : decode cX10_number 51 = .ok (.iadd, 1) := by decide +kernel
theorem dX10_number_52 : decode cX10_number 52 = .ok (.bipush 48, 2) := by decide +kernel
theorem dX10_number_54 : decode cX10_number 54 = .ok (.isub, 1) := by decide +kernel
theorem dX10_number_55 : decode cX10_number 55 = .ok (.istore 4, 2) := by decide +kernel
theorem dX10_number_57 : decode cX10_number 57 = .ok (.aload_n 0, 1) := by decide +kernel
theorem dX10_number_58 : decode cX10_number 58 = .ok (.dup, 1) := by decide +kernel
theorem dX10_number_59 : decode cX10_number 59 = .ok (.getfield 119, 3) := by decide +kernel
theorem dX10_number_62 : decode cX10_number 62 = .ok (.iconst 1, 1) := by decide +kernel
theorem dX10_number_63 : decode cX10_number 63 = .ok (.iadd, 1) := by decide +kernel
theorem dX10_number_64 : decode cX10_number 64 = .ok (.putfield 119, 3) := by decide +kernel
theorem dX10_number_67 : decode cX10_number 67 = .ok (.aload_n 0, 1) := by decide +kernel
theorem dX10_number_68 : decode cX10_number 68 = .ok (.invokevirtual 168, 3) := by decide +kernel
theorem dX10_number_71 : decode cX10_number 71 = .ok (.ifCond .eq 10, 3) := by decide +kernel
theorem dX10_number_74 : decode cX10_number 74 = .ok (.aload_n 0, 1) := by decide +kernel
theorem dX10_number_75 : decode cX10_number 75 = .ok (.invokevirtual 134, 3) := by decide +kernel
theorem dX10_number_78 : decode cX10_number 78 = .ok (.pop, 1) := by decide +kernel
theorem dX10_number_79 : decode cX10_number 79 = .ok (.iconst 0, 1) := by decide +kernel
theorem dX10_number_80 : decode cX10_number 80 = .ok (.ireturn, 1) := by decide +kernel
theorem dX10_number_81 : decode cX10_number 81 = .ok (.iload 4, 2) := by decide +kernel
theorem dX10_number_83 : decode cX10_number 83 = .ok (.i2l, 1) := by decide +kernel
theorem dX10_number_84 : decode cX10_number 84 = .ok (.iload_n 1, 1) := by decide +kernel
theorem dX10_number_85 : decode cX10_number 85 = .ok (.i2l, 1) := by decide +kernel
theorem dX10_number_86 : decode cX10_number 86 = .ok (.iload_n 2, 1) := by decide +kernel
theorem dX10_number_87 : decode cX10_number 87 = .ok (.i2l, 1) := by decide +kernel
theorem dX10_number_88 : decode cX10_number 88 = .ok (.invokestatic 217, 3) := by decide +kernel
theorem dX10_number_91 : decode cX10_number 91 = .ok (.ifCond .ne 18, 3) := by decide +kernel
theorem dX10_number_94 : decode cX10_number 94 = .ok (.aload_n 0, 1) := by decide +kernel
theorem dX10_number_95 : decode cX10_number 95 = .ok (.dup, 1) := by decide +kernel
theorem dX10_number_96 : decode cX10_number 96 = .ok (.getfield 119, 3) := by decide +kernel
theorem dX10_number_99 : decode cX10_number 99 = .ok (.iconst 1, 1) := by decide +kernel
theorem dX10_number_100 : decode cX10_number 100 = .ok (.isub, 1) := by decide +kernel
theorem dX10_number_101 : decode cX10_number 101 = .ok (.putfield 119, 3) := by decide +kernel
theorem dX10_number_104 : decode cX10_number 104 = .ok (.aload_n 0, 1) := by decide +kernel
theorem dX10_number_105 : decode cX10_number 105 = .ok (.invokevirtual 134, 3) := by decide +kernel
theorem dX10_number_108 : decode cX10_number 108 = .ok (.pop, 1) := by decide +kernel
theorem dX10_number_109 : decode cX10_number 109 = .ok (.iload 4, 2) := by decide +kernel
theorem dX10_number_111 : decode cX10_number 111 = .ok (.ireturn, 1) := by decide +kernel
theorem dX10_spotOf_0 : decode cX10_spotOf 0 = .ok (.iconst 0, 1) := by decide +kernel
theorem dX10_spotOf_1 : decode cX10_spotOf 1 = .ok (.istore_n 2, 1) := by decide +kernel
theorem dX10_spotOf_2 : decode cX10_spotOf 2 = .ok (.iload_n 2, 1) := by decide +kernel
theorem dX10_spotOf_3 : decode cX10_spotOf 3 = .ok (.aload_n 0, 1) := by decide +kernel
theorem dX10_spotOf_4 : decode cX10_spotOf 4 = .ok (.invokevirtual 99, 3) := by decide +kernel
theorem dX10_spotOf_7 : decode cX10_spotOf 7 = .ok (.if_icmp .ge 20, 3) := by decide +kernel
theorem dX10_spotOf_10 : decode cX10_spotOf 10 = .ok (.aload_n 0, 1) := by decide +kernel
theorem dX10_spotOf_11 : decode cX10_spotOf 11 = .ok (.iload_n 2, 1) := by decide +kernel
theorem dX10_spotOf_12 : decode cX10_spotOf 12 = .ok (.invokevirtual 105, 3) := by decide +kernel
theorem dX10_spotOf_15 : decode cX10_spotOf 15 = .ok (.iload_n 1, 1) := by decide +kernel
theorem dX10_spotOf_16 : decode cX10_spotOf 16 = .ok (.if_icmp .ne 5, 3) := by decide +kernel
theorem dX10_spotOf_19 : decode cX10_spotOf 19 = .ok (.iload_n 2, 1) := by decide +kernel
theorem dX10_spotOf_20 : decode cX10_spotOf 20 = .ok (.ireturn, 1) := by decide +kernel
theorem dX10_spotOf_21 : decode cX10_spotOf 21 = .ok (.iinc 2 1, 3) := by decide +kernel
theorem dX10_spotOf_24 : decode cX10_spotOf 24 = .ok (.goto (-22), 3) := by decide +kernel
theorem dX10_spotOf_27 : decode cX10_spotOf 27 = .ok (.iconst (-1), 1) := by decide +kernel
theorem dX10_spotOf_28 : decode cX10_spotOf 28 = .ok (.ireturn, 1) := by decide +kernel
theorem dX10_usual_0 : decode cX10_usual 0 = .ok (.iload_n 0, 1) := by decide +kernel
theorem dX10_usual_1 : decode cX10_usual 1 = .ok (.bipush 115, 2) := by decide +kernel
theorem dX10_usual_3 : decode cX10_usual 3 = .ok (.if_icmp .ne 6, 3) := by decide +kernel
theorem dX10_usual_6 : decode cX10_usual 6 = .ok (.bipush 20, 2) := by decide +kernel
theorem dX10_usual_8 : decode cX10_usual 8 = .ok (.ireturn, 1) := by decide +kernel
theorem dX10_usual_9 : decode cX10_usual 9 = .ok (.iload_n 0, 1) := by decide +kernel
theorem dX10_usual_10 : decode cX10_usual 10 = .ok (.bipush 112, 2) := by decide +kernel
theorem dX10_usual_12 : decode cX10_usual 12 = .ok (.if_icmp .ne 22, 3) := by decide +kernel
theorem dX10_usual_15 : decode cX10_usual 15 = .ok (.iload_n 1, 1) := by decide +kernel
theorem dX10_usual_16 : decode cX10_usual 16 = .ok (.ifCond .ne 7, 3) := by decide +kernel
theorem dX10_usual_19 : decode cX10_usual 19 = .ok (.iconst 4, 1) := by decide +kernel
theorem dX10_usual_20 : decode cX10_usual 20 = .ok (.goto 13, 3) := by decide +kernel
theorem dX10_usual_23 : decode cX10_usual 23 = .ok (.iload_n 1, 1) := by decide +kernel
theorem dX10_usual_24 : decode cX10_usual 24 = .ok (.iconst 1, 1) := by decide +kernel
theorem dX10_usual_25 : decode cX10_usual 25 = .ok (.if_icmp .ne 7, 3) := by decide +kernel
theorem dX10_usual_28 : decode cX10_usual 28 = .ok (.iconst 2, 1) := by decide +kernel
theorem dX10_usual_29 : decode cX10_usual 29 = .ok (.goto 4, 3) := by decide +kernel
theorem dX10_usual_32 : decode cX10_usual 32 = .ok (.iconst 3, 1) := by decide +kernel
theorem dX10_usual_33 : decode cX10_usual 33 = .ok (.ireturn, 1) := by decide +kernel
theorem dX10_usual_34 : decode cX10_usual 34 = .ok (.iload_n 1, 1) := by decide +kernel
theorem dX10_usual_35 : decode cX10_usual 35 = .ok (.ifCond .ne 7, 3) := by decide +kernel
theorem dX10_usual_38 : decode cX10_usual 38 = .ok (.iconst 0, 1) := by decide +kernel
theorem dX10_usual_39 : decode cX10_usual 39 = .ok (.goto 13, 3) := by decide +kernel
theorem dX10_usual_42 : decode cX10_usual 42 = .ok (.iload_n 1, 1) := by decide +kernel
theorem dX10_usual_43 : decode cX10_usual 43 = .ok (.iconst 1, 1) := by decide +kernel
theorem dX10_usual_44 : decode cX10_usual 44 = .ok (.if_icmp .ne 7, 3) := by decide +kernel
theorem dX10_usual_47 : decode cX10_usual 47 = .ok (.iconst 1, 1) := by decide +kernel
theorem dX10_usual_48 : decode cX10_usual 48 = .ok (.goto 4, 3) := by decide +kernel
theorem dX10_usual_51 : decode cX10_usual 51 = .ok (.iconst 3, 1) := by decide +kernel
theorem dX10_usual_52 : decode cX10_usual 52 = .ok (.ireturn, 1) := by decide +kernel
theorem dX10_readItems_0 : decode cX10_readItems 0 = .ok (.iconst 0, 1) := by decide +kernel
theorem dX10_readItems_1 : decode cX10_readItems 1 = .ok (.istore 5, 2) := by decide +kernel
theorem dX10_readItems_3 : decode cX10_readItems 3 = .ok (.iload 5, 2) := by decide +kernel
theorem dX10_readItems_5 : decode cX10_readItems 5 = .ok (.aload 4, 2) := by decide +kernel
theorem dX10_readItems_7 : decode cX10_readItems 7 = .ok (.invokevirtual 99, 3) := by decide +kernel
theorem dX10_readItems_10 : decode cX10_readItems 10 = .ok (.if_icmp .ge 21, 3) := by decide +kernel
theorem dX10_readItems_13 : decode cX10_readItems 13 = .ok (.aload_n 2, 1) := by decide +kernel
theorem dX10_readItems_14 : decode cX10_readItems 14 = .ok (.iload_n 3, 1) := by decide +kernel
theorem dX10_readItems_15 : decode cX10_readItems 15 = .ok (.iload 5, 2) := by decide +kernel
theorem dX10_readItems_17 : decode cX10_readItems 17 = .ok (.iadd, 1) := by decide +kernel
theorem dX10_readItems_18 : decode cX10_readItems 18 = .ok (.iload_n 1, 1) := by decide +kernel
theorem dX10_readItems_19 : decode cX10_readItems 19 = .ok (.iload 5, 2) := by decide +kernel
theorem dX10_readItems_21 : decode cX10_readItems 21 = .ok (.invokestatic 221, 3) := by decide +kernel
theorem dX10_readItems_24 : decode cX10_readItems 24 = .ok (.iastore, 1) := by decide +kernel
theorem dX10_readItems_25 : decode cX10_readItems 25 = .ok (.iinc 5 1, 3) := by decide +kernel
theorem dX10_readItems_28 : decode cX10_readItems 28 = .ok (.goto (-25), 3) := by decide +kernel
theorem dX10_readItems_31 : decode cX10_readItems 31 = .ok (.iconst 0, 1) := by decide +kernel
theorem dX10_readItems_32 : decode cX10_readItems 32 = .ok (.istore 5, 2) := by decide +kernel
theorem dX10_readItems_34 : decode cX10_readItems 34 = .ok (.aload 4, 2) := by decide +kernel
theorem dX10_readItems_36 : decode cX10_readItems 36 = .ok (.aload_n 0, 1) := by decide +kernel
theorem dX10_readItems_37 : decode cX10_readItems 37 = .ok (.invokevirtual 138, 3) := by decide +kernel
theorem dX10_readItems_40 : decode cX10_readItems 40 = .ok (.invokestatic 225, 3) := by decide +kernel
theorem dX10_readItems_43 : decode cX10_readItems 43 = .ok (.istore 6, 2) := by decide +kernel
theorem dX10_readItems_45 : decode cX10_readItems 45 = .ok (.iload 6, 2) := by decide +kernel
theorem dX10_readItems_47 : decode cX10_readItems 47 = .ok (.iconst (-1), 1) := by decide +kernel
theorem dX10_readItems_48 : decode cX10_readItems 48 = .ok (.if_icmp .eq 90, 3) := by decide +kernel
theorem dX10_readItems_51 : decode cX10_readItems 51 = .ok (.aload_n 0, 1) := by decide +kernel
theorem dX10_readItems_52 : decode cX10_readItems 52 = .ok (.getfield 128, 3) := by decide +kernel
theorem dX10_readItems_55 : decode cX10_readItems 55 = .ok (.iconst (-1), 1) := by decide +kernel
theorem dX10_readItems_56 : decode cX10_readItems 56 = .ok (.if_icmp .ne 82, 3) := by decide +kernel
theorem dX10_readItems_59 : decode cX10_readItems 59 = .ok (.iload 5, 2) := by decide +kernel
theorem dX10_readItems_61 : decode cX10_readItems 61 = .ok (.iload 6, 2) := by decide +kernel
theorem dX10_readItems_63 : decode cX10_readItems 63 = .ok (.invokestatic 229, 3) := by decide +kernel
theorem dX10_readItems_66 : decode cX10_readItems 66 = .ok (.ifCond .eq 9, 3) := by decide +kernel
theorem dX10_readItems_69 : decode cX10_readItems 69 = .ok (.aload_n 0, 1) := by decide +kernel
theorem dX10_readItems_70 : decode cX10_readItems 70 = .ok (.invokevirtual 134, 3) := by decide +kernel
theorem dX10_readItems_73 : decode cX10_readItems 73 = .ok (.pop, 1) := by decide +kernel
theorem dX10_readItems_74 : decode cX10_readItems 74 = .ok (.return_, 1) := by decide +kernel
theorem dX10_readItems_75 : decode cX10_readItems 75 = .ok (.iload 5, 2) := by decide +kernel
theorem dX10_readItems_77 : decode cX10_readItems 77 = .ok (.iconst 1, 1) := by decide +kernel
theorem dX10_readItems_78 : decode cX10_readItems 78 = .ok (.iload 6, 2) := by decide +kernel
theorem dX10_readItems_80 : decode cX10_readItems 80 = .ok (.ishl, 1) := by decide +kernel
theorem dX10_readItems_81 : decode cX10_readItems 81 = .ok (.ior, 1) := by decide +kernel
theorem dX10_readItems_82 : decode cX10_readItems 82 = .ok (.istore 5, 2) := by decide +kernel
theorem dX10_readItems_84 : decode cX10_readItems 84 = .ok (.aload_n 0, 1) := by decide +kernel
theorem dX10_readItems_85 : decode cX10_readItems 85 = .ok (.dup, 1) := by decide +kernel
theorem dX10_readItems_86 : decode cX10_readItems 86 = .ok (.getfield 119, 3) := by decide +kernel
theorem dX10_readItems_89 : decode cX10_readItems 89 = .ok (.iconst 1, 1) := by decide +kernel
theorem dX10_readItems_90 : decode cX10_readItems 90 = .ok (.iadd, 1) := by decide +kernel
theorem dX10_readItems_91 : decode cX10_readItems 91 = .ok (.putfield 119, 3) := by decide +kernel
theorem dX10_readItems_94 : decode cX10_readItems 94 = .ok (.aload_n 2, 1) := by decide +kernel
theorem dX10_readItems_95 : decode cX10_readItems 95 = .ok (.iload_n 3, 1) := by decide +kernel
theorem dX10_readItems_96 : decode cX10_readItems 96 = .ok (.iload 6, 2) := by decide +kernel
theorem dX10_readItems_98 : decode cX10_readItems 98 = .ok (.iadd, 1) := by decide +kernel
theorem dX10_readItems_99 : decode cX10_readItems 99 = .ok (.aload_n 0, 1) := by decide +kernel
theorem dX10_readItems_100 : decode cX10_readItems 100 = .ok (.iload_n 1, 1) := by decide +kernel
theorem dX10_readItems_101 : decode cX10_readItems 101 = .ok (.iload 6, 2) := by decide +kernel
theorem dX10_readItems_103 : decode cX10_readItems 103 = .ok (.invokestatic 233, 3) := by decide +kernel
theorem dX10_readItems_106 : decode cX10_readItems 106 = .ok (.iload_n 1, 1) := by decide +kernel
theorem dX10_readItems_107 : decode cX10_readItems 107 = .ok (.iload 6, 2) := by decide +kernel
theorem dX10_readItems_109 : decode cX10_readItems 109 = .ok (.invokestatic 236, 3) := by decide +kernel
theorem dX10_readItems_112 : decode cX10_readItems 112 = .ok (.invokevirtual 239, 3) := by decide +kernel
theorem dX10_readItems_115 : decode cX10_readItems 115 = .ok (.iastore, 1) := by decide +kernel
theorem dX10_readItems_116 : decode cX10_readItems 116 = .ok (.aload_n 0, 1) := by decide +kernel
theorem dX10_readItems_117 : decode cX10_readItems 117 = .ok (.getfield 128, 3) := by decide +kernel
theorem dX10_readItems_120 : decode cX10_readItems 120 = .ok (.iconst (-1), 1) := by decide +kernel
theorem dX10_readItems_121 : decode cX10_readItems 121 = .ok (.if_icmp .ne (-76), 3) := by decide +kernel
theorem dX10_readItems_124 : decode cX10_readItems 124 = .ok (.aload 4, 2) := by decide +kernel
theorem dX10_readItems_126 : decode cX10_readItems 126 = .ok (.aload_n 0, 1) := by decide +kernel
theorem dX10_readItems_127 : decode cX10_readItems 127 = .ok (.invokevirtual 138, 3) := by decide +kernel
theorem dX10_readItems_130 : decode cX10_readItems 130 = .ok (.invokestatic 225, 3) := by decide +kernel
theorem dX10_readItems_133 : decode cX10_readItems 133 = .ok (.istore 6, 2) := by decide +kernel
theorem dX10_readItems_135 : decode cX10_readItems 135 = .ok (.goto (-90), 3) := by decide +kernel
theorem dX10_readItems_138 : decode cX10_readItems 138 = .ok (.return_, 1) := by decide +kernel
theorem dX10_readClause_0 : decode cX10_readClause 0 = .ok (.aload_n 0, 1) := by decide +kernel
theorem dX10_readClause_1 : decode cX10_readClause 1 = .ok (.invokevirtual 138, 3) := by decide +kernel
theorem dX10_readClause_4 : decode cX10_readClause 4 = .ok (.istore_n 1, 1) := by decide +kernel
theorem dX10_readClause_5 : decode cX10_readClause 5 = .ok (.iload_n 1, 1) := by decide +kernel
theorem dX10_readClause_6 : decode cX10_readClause 6 = .ok (.bipush 115, 2) := by decide +kernel
theorem dX10_readClause_8 : decode cX10_readClause 8 = .ok (.if_icmp .ne 10, 3) := by decide +kernel
theorem dX10_readClause_11 : decode cX10_readClause 11 = .ok (.aload_n 0, 1) := by decide +kernel
theorem dX10_readClause_12 : decode cX10_readClause 12 = .ok (.getfield 242, 3) := by decide +kernel
theorem dX10_readClause_15 : decode cX10_readClause 15 = .ok (.ifCond .eq 33, 3) := by decide +kernel
theorem dX10_readClause_18 : decode cX10_readClause 18 = .ok (.iload_n 1, 1) := by decide +kernel
theorem dX10_readClause_19 : decode cX10_readClause 19 = .ok (.bipush 112, 2) := by decide +kernel
theorem dX10_readClause_21 : decode cX10_readClause 21 = .ok (.if_icmp .ne 12, 3) := by decide +kernel
theorem dX10_readClause_24 : decode cX10_readClause 24 = .ok (.aload_n 0, 1) := by decide +kernel
theorem dX10_readClause_25 : decode cX10_readClause 25 = .ok (.getfield 245, 3) := by decide +kernel
theorem dX10_readClause_28 : decode cX10_readClause 28 = .ok (.bipush 6, 2) := by decide +kernel
theorem dX10_readClause_30 : decode cX10_readClause 30 = .ok (.if_icmp .lt 18, 3) := by decide +kernel
theorem dX10_readClause_33 : decode cX10_readClause 33 = .ok (.iload_n 1, 1) := by decide +kernel
theorem dX10_readClause_34 : decode cX10_readClause 34 = .ok (.bipush 119, 2) := by decide +kernel
theorem dX10_readClause_36 : decode cX10_readClause 36 = .ok (.if_icmp .ne 16, 3) := by decide +kernel
theorem dX10_readClause_39 : decode cX10_readClause 39 = .ok (.aload_n 0, 1) := by decide +kernel
theorem dX10_readClause_40 : decode cX10_readClause 40 = .ok (.getfield 248, 3) := by decide +kernel
theorem dX10_readClause_43 : decode cX10_readClause 43 = .ok (.bipush 8, 2) := by decide +kernel
theorem dX10_readClause_45 : decode cX10_readClause 45 = .ok (.if_icmp .ge 7, 3) := by decide +kernel
theorem dX10_readClause_48 : decode cX10_readClause 48 = .ok (.iconst 1, 1) := by decide +kernel
theorem dX10_readClause_49 : decode cX10_readClause 49 = .ok (.goto 4, 3) := by decide +kernel
theorem dX10_readClause_52 : decode cX10_readClause 52 = .ok (.iconst 0, 1) := by decide +kernel
theorem dX10_readClause_53 : decode cX10_readClause 53 = .ok (.istore_n 2, 1) := by decide +kernel
theorem dX10_readClause_54 : decode cX10_readClause 54 = .ok (.iload_n 2, 1) := by decide +kernel
theorem dX10_readClause_55 : decode cX10_readClause 55 = .ok (.ifCond .ne 9, 3) := by decide +kernel
theorem dX10_readClause_58 : decode cX10_readClause 58 = .ok (.aload_n 0, 1) := by decide +kernel
theorem dX10_readClause_59 : decode cX10_readClause 59 = .ok (.invokevirtual 134, 3) := by decide +kernel
theorem dX10_readClause_62 : decode cX10_readClause 62 = .ok (.pop, 1) := by decide +kernel
theorem dX10_readClause_63 : decode cX10_readClause 63 = .ok (.return_, 1) := by decide +kernel
theorem dX10_readClause_64 : decode cX10_readClause 64 = .ok (.aload_n 0, 1) := by decide +kernel
theorem dX10_readClause_65 : decode cX10_readClause 65 = .ok (.dup, 1) := by decide +kernel
theorem dX10_readClause_66 : decode cX10_readClause 66 = .ok (.getfield 119, 3) := by decide +kernel
theorem dX10_readClause_69 : decode cX10_readClause 69 = .ok (.iconst 1, 1) := by decide +kernel
theorem dX10_readClause_70 : decode cX10_readClause 70 = .ok (.iadd, 1) := by decide +kernel
theorem dX10_readClause_71 : decode cX10_readClause 71 = .ok (.putfield 119, 3) := by decide +kernel
theorem dX10_readClause_74 : decode cX10_readClause 74 = .ok (.iload_n 1, 1) := by decide +kernel
theorem dX10_readClause_75 : decode cX10_readClause 75 = .ok (.bipush 115, 2) := by decide +kernel
theorem dX10_readClause_77 : decode cX10_readClause 77 = .ok (.if_icmp .ne 23, 3) := by decide +kernel
theorem dX10_readClause_80 : decode cX10_readClause 80 = .ok (.aload_n 0, 1) := by decide +kernel
theorem dX10_readClause_81 : decode cX10_readClause 81 = .ok (.iconst 1, 1) := by decide +kernel
theorem dX10_readClause_82 : decode cX10_readClause 82 = .ok (.putfield 242, 3) := by decide +kernel
theorem dX10_readClause_85 : decode cX10_readClause 85 = .ok (.aload_n 0, 1) := by decide +kernel
theorem dX10_readClause_86 : decode cX10_readClause 86 = .ok (.iload_n 1, 1) := by decide +kernel
theorem dX10_readClause_87 : decode cX10_readClause 87 = .ok (.aload_n 0, 1) := by decide +kernel
theorem dX10_readClause_88 : decode cX10_readClause 88 = .ok (.getfield 40, 3) := by decide +kernel
theorem dX10_readClause_91 : decode cX10_readClause 91 = .ok (.iconst 0, 1) := by decide +kernel
theorem dX10_readClause_92 : decode cX10_readClause 92 = .ok (.ldc 251, 2) := by decide +kernel
theorem dX10_readClause_94 : decode cX10_readClause 94 = .ok (.invokevirtual 253, 3) := by decide +kernel
theorem dX10_readClause_97 : decode cX10_readClause 97 = .ok (.goto 72, 3) := by decide +kernel
theorem dX10_readClause_100 : decode cX10_readClause 100 = .ok (.iload_n 1, 1) := by decide +kernel
theorem dX10_readClause_101 : decode cX10_readClause 101 = .ok (.bipush 112, 2) := by decide +kernel
theorem dX10_readClause_103 : decode cX10_readClause 103 = .ok (.if_icmp .ne 36, 3) := by decide +kernel
theorem dX10_readClause_106 : decode cX10_readClause 106 = .ok (.aload_n 0, 1) := by decide +kernel
theorem dX10_readClause_107 : decode cX10_readClause 107 = .ok (.dup, 1) := by decide +kernel
theorem dX10_readClause_108 : decode cX10_readClause 108 = .ok (.getfield 245, 3) := by decide +kernel
theorem dX10_readClause_111 : decode cX10_readClause 111 = .ok (.iconst 1, 1) := by decide +kernel
theorem dX10_readClause_112 : decode cX10_readClause 112 = .ok (.iadd, 1) := by decide +kernel
theorem dX10_readClause_113 : decode cX10_readClause 113 = .ok (.putfield 245, 3) := by decide +kernel
theorem dX10_readClause_116 : decode cX10_readClause 116 = .ok (.aload_n 0, 1) := by decide +kernel
theorem dX10_readClause_117 : decode cX10_readClause 117 = .ok (.iload_n 1, 1) := by decide +kernel
theorem dX10_readClause_118 : decode cX10_readClause 118 = .ok (.aload_n 0, 1) := by decide +kernel
theorem dX10_readClause_119 : decode cX10_readClause 119 = .ok (.getfield 46, 3) := by decide +kernel
theorem dX10_readClause_122 : decode cX10_readClause 122 = .ok (.iconst 3, 1) := by decide +kernel
theorem dX10_readClause_123 : decode cX10_readClause 123 = .ok (.aload_n 0, 1) := by decide +kernel
theorem dX10_readClause_124 : decode cX10_readClause 124 = .ok (.getfield 245, 3) := by decide +kernel
theorem dX10_readClause_127 : decode cX10_readClause 127 = .ok (.iconst 1, 1) := by decide +kernel
theorem dX10_readClause_128 : decode cX10_readClause 128 = .ok (.isub, 1) := by decide +kernel
theorem dX10_readClause_129 : decode cX10_readClause 129 = .ok (.imul, 1) := by decide +kernel
theorem dX10_readClause_130 : decode cX10_readClause 130 = .ok (.ldc_w 257, 3) := by decide +kernel
theorem dX10_readClause_133 : decode cX10_readClause 133 = .ok (.invokevirtual 253, 3) := by decide +kernel
theorem dX10_readClause_136 : decode cX10_readClause 136 = .ok (.goto 33, 3) := by decide +kernel
theorem dX10_readClause_139 : decode cX10_readClause 139 = .ok (.aload_n 0, 1) := by decide +kernel
theorem dX10_readClause_140 : decode cX10_readClause 140 = .ok (.dup, 1) := by decide +kernel
theorem dX10_readClause_141 : decode cX10_readClause 141 = .ok (.getfield 248, 3) := by decide +kernel
theorem dX10_readClause_144 : decode cX10_readClause 144 = .ok (.iconst 1, 1) := by decide +kernel
theorem dX10_readClause_145 : decode cX10_readClause 145 = .ok (.iadd, 1) := by decide +kernel
theorem dX10_readClause_146 : decode cX10_readClause 146 = .ok (.putfield 248, 3) := by decide +kernel
theorem dX10_readClause_149 : decode cX10_readClause 149 = .ok (.aload_n 0, 1) := by decide +kernel
theorem dX10_readClause_150 : decode cX10_readClause 150 = .ok (.iload_n 1, 1) := by decide +kernel
theorem dX10_readClause_151 : decode cX10_readClause 151 = .ok (.aload_n 0, 1) := by decide +kernel
theorem dX10_readClause_152 : decode cX10_readClause 152 = .ok (.getfield 52, 3) := by decide +kernel
theorem dX10_readClause_155 : decode cX10_readClause 155 = .ok (.iconst 3, 1) := by decide +kernel
theorem dX10_readClause_156 : decode cX10_readClause 156 = .ok (.aload_n 0, 1) := by decide +kernel
theorem dX10_readClause_157 : decode cX10_readClause 157 = .ok (.getfield 248, 3) := by decide +kernel
theorem dX10_readClause_160 : decode cX10_readClause 160 = .ok (.iconst 1, 1) := by decide +kernel
theorem dX10_readClause_161 : decode cX10_readClause 161 = .ok (.isub, 1) := by decide +kernel
theorem dX10_readClause_162 : decode cX10_readClause 162 = .ok (.imul, 1) := by decide +kernel
theorem dX10_readClause_163 : decode cX10_readClause 163 = .ok (.ldc_w 259, 3) := by decide +kernel
theorem dX10_readClause_166 : decode cX10_readClause 166 = .ok (.invokevirtual 253, 3) := by decide +kernel
theorem dX10_readClause_169 : decode cX10_readClause 169 = .ok (.return_, 1) := by decide +kernel
theorem dX10_readCounty_0 : decode cX10_readCounty 0 = .ok (.aload_n 0, 1) := by decide +kernel
theorem dX10_readCounty_1 : decode cX10_readCounty 1 = .ok (.aload_n 0, 1) := by decide +kernel
theorem dX10_readCounty_2 : decode cX10_readCounty 2 = .ok (.getfield 9, 3) := by decide +kernel
theorem dX10_readCounty_5 : decode cX10_readCounty 5 = .ok (.iconst 0, 1) := by decide +kernel
theorem dX10_readCounty_6 : decode cX10_readCounty 6 = .ok (.aload_n 0, 1) := by decide +kernel
theorem dX10_readCounty_7 : decode cX10_readCounty 7 = .ok (.getfield 109, 3) := by decide +kernel
theorem dX10_readCounty_10 : decode cX10_readCounty 10 = .ok (.invokevirtual 207, 3) := by decide +kernel
theorem dX10_readCounty_13 : decode cX10_readCounty 13 = .ok (.aload_n 0, 1) := by decide +kernel
theorem dX10_readCounty_14 : decode cX10_readCounty 14 = .ok (.iconst 0, 1) := by decide +kernel
theorem dX10_readCounty_15 : decode cX10_readCounty 15 = .ok (.putfield 245, 3) := by decide +kernel
theorem dX10_readCounty_18 : decode cX10_readCounty 18 = .ok (.aload_n 0, 1) := by decide +kernel
theorem dX10_readCounty_19 : decode cX10_readCounty 19 = .ok (.iconst 0, 1) := by decide +kernel
theorem dX10_readCounty_20 : decode cX10_readCounty 20 = .ok (.putfield 248, 3) := by decide +kernel
theorem dX10_readCounty_23 : decode cX10_readCounty 23 = .ok (.aload_n 0, 1) := by decide +kernel
theorem dX10_readCounty_24 : decode cX10_readCounty 24 = .ok (.iconst 0, 1) := by decide +kernel
theorem dX10_readCounty_25 : decode cX10_readCounty 25 = .ok (.putfield 242, 3) := by decide +kernel
theorem dX10_readCounty_28 : decode cX10_readCounty 28 = .ok (.aload_n 0, 1) := by decide +kernel
theorem dX10_readCounty_29 : decode cX10_readCounty 29 = .ok (.getfield 40, 3) := by decide +kernel
theorem dX10_readCounty_32 : decode cX10_readCounty 32 = .ok (.iconst 0, 1) := by decide +kernel
theorem dX10_readCounty_33 : decode cX10_readCounty 33 = .ok (.bipush 20, 2) := by decide +kernel
theorem dX10_readCounty_35 : decode cX10_readCounty 35 = .ok (.iastore, 1) := by decide +kernel
theorem dX10_readCounty_36 : decode cX10_readCounty 36 = .ok (.aload_n 0, 1) := by decide +kernel
theorem dX10_readCounty_37 : decode cX10_readCounty 37 = .ok (.getfield 40, 3) := by decide +kernel
theorem dX10_readCounty_40 : decode cX10_readCounty 40 = .ok (.iconst 1, 1) := by decide +kernel
theorem dX10_readCounty_41 : decode cX10_readCounty 41 = .ok (.bipush 20, 2) := by decide +kernel
theorem dX10_readCounty_43 : decode cX10_readCounty 43 = .ok (.iastore, 1) := by decide +kernel
theorem dX10_readCounty_44 : decode cX10_readCounty 44 = .ok (.iconst 1, 1) := by decide +kernel
theorem dX10_readCounty_45 : decode cX10_readCounty 45 = .ok (.istore_n 1, 1) := by decide +kernel
theorem dX10_readCounty_46 : decode cX10_readCounty 46 = .ok (.iload_n 1, 1) := by decide +kernel
theorem dX10_readCounty_47 : decode cX10_readCounty 47 = .ok (.ifCond .eq 55, 3) := by decide +kernel
theorem dX10_readCounty_50 : decode cX10_readCounty 50 = .ok (.aload_n 0, 1) := by decide +kernel
theorem dX10_readCounty_51 : decode cX10_readCounty 51 = .ok (.getfield 128, 3) := by decide +kernel
theorem dX10_readCounty_54 : decode cX10_readCounty 54 = .ok (.iconst (-1), 1) := by decide +kernel
theorem dX10_readCounty_55 : decode cX10_readCounty 55 = .ok (.if_icmp .ne 47, 3) := by decide +kernel
theorem dX10_readCounty_58 : decode cX10_readCounty 58 = .ok (.aload_n 0, 1) := by decide +kernel
theorem dX10_readCounty_59 : decode cX10_readCounty 59 = .ok (.invokevirtual 261, 3) := by decide +kernel
theorem dX10_readCounty_62 : decode cX10_readCounty 62 = .ok (.aload_n 0, 1) := by decide +kernel
theorem dX10_readCounty_63 : decode cX10_readCounty 63 = .ok (.getfield 128, 3) := by decide +kernel
theorem dX10_readCounty_66 : decode cX10_readCounty 66 = .ok (.iconst (-1), 1) := by decide +kernel
theorem dX10_readCounty_67 : decode cX10_readCounty 67 = .ok (.if_icmp .ne 16, 3) := by decide +kernel
theorem dX10_readCounty_70 : decode cX10_readCounty 70 = .ok (.aload_n 0, 1) := by decide +kernel
theorem dX10_readCounty_71 : decode cX10_readCounty 71 = .ok (.invokevirtual 138, 3) := by decide +kernel
theorem dX10_readCounty_74 : decode cX10_readCounty 74 = .ok (.bipush 59, 2) := by decide +kernel
theorem dX10_readCounty_76 : decode cX10_readCounty 76 = .ok (.if_icmp .ne 7, 3) := by decide +kernel
theorem dX10_readCounty_79 : decode cX10_readCounty 79 = .ok (.iconst 1, 1) := by decide +kernel
theorem dX10_readCounty_80 : decode cX10_readCounty 80 = .ok (.goto 4, 3) := by decide +kernel
theorem dX10_readCounty_83 : decode cX10_readCounty 83 = .ok (.iconst 0, 1) := by decide +kernel
theorem dX10_readCounty_84 : decode cX10_readCounty 84 = .ok (.istore_n 1, 1) := by decide +kernel
theorem dX10_readCounty_85 : decode cX10_readCounty 85 = .ok (.iload_n 1, 1) := by decide +kernel
theorem dX10_readCounty_86 : decode cX10_readCounty 86 = .ok (.ifCond .eq (-40), 3) := by decide +kernel
theorem dX10_readCounty_89 : decode cX10_readCounty 89 = .ok (.aload_n 0, 1) := by decide +kernel
theorem dX10_readCounty_90 : decode cX10_readCounty 90 = .ok (.dup, 1) := by decide +kernel
theorem dX10_readCounty_91 : decode cX10_readCounty 91 = .ok (.getfield 119, 3) := by decide +kernel
theorem dX10_readCounty_94 : decode cX10_readCounty 94 = .ok (.iconst 1, 1) := by decide +kernel
theorem dX10_readCounty_95 : decode cX10_readCounty 95 = .ok (.iadd, 1) := by decide +kernel
theorem dX10_readCounty_96 : decode cX10_readCounty 96 = .ok (.putfield 119, 3) := by decide +kernel
theorem dX10_readCounty_99 : decode cX10_readCounty 99 = .ok (.goto (-53), 3) := by decide +kernel
theorem dX10_readCounty_102 : decode cX10_readCounty 102 = .ok (.aload_n 0, 1) := by decide +kernel
theorem dX10_readCounty_103 : decode cX10_readCounty 103 = .ok (.getfield 128, 3) := by decide +kernel
theorem dX10_readCounty_106 : decode cX10_readCounty 106 = .ok (.iconst (-1), 1) := by decide +kernel
theorem dX10_readCounty_107 : decode cX10_readCounty 107 = .ok (.if_icmp .ne 23, 3) := by decide +kernel
theorem dX10_readCounty_110 : decode cX10_readCounty 110 = .ok (.aload_n 0, 1) := by decide +kernel
theorem dX10_readCounty_111 : decode cX10_readCounty 111 = .ok (.invokevirtual 138, 3) := by decide +kernel
theorem dX10_readCounty_114 : decode cX10_readCounty 114 = .ok (.iconst (-1), 1) := by decide +kernel
theorem dX10_readCounty_115 : decode cX10_readCounty 115 = .ok (.if_icmp .ne 10, 3) := by decide +kernel
theorem dX10_readCounty_118 : decode cX10_readCounty 118 = .ok (.aload_n 0, 1) := by decide +kernel
theorem dX10_readCounty_119 : decode cX10_readCounty 119 = .ok (.invokevirtual 264, 3) := by decide +kernel
theorem dX10_readCounty_122 : decode cX10_readCounty 122 = .ok (.ifCond .ne 8, 3) := by decide +kernel
theorem dX10_readCounty_125 : decode cX10_readCounty 125 = .ok (.aload_n 0, 1) := by decide +kernel
theorem dX10_readCounty_126 : decode cX10_readCounty 126 = .ok (.invokevirtual 134, 3) := by decide +kernel
theorem dX10_readCounty_129 : decode cX10_readCounty 129 = .ok (.pop, 1) := by decide +kernel
theorem dX10_readCounty_130 : decode cX10_readCounty 130 = .ok (.return_, 1) := by decide +kernel
theorem dX10_readStep_0 : decode cX10_readStep 0 = .ok (.ldc_w 267, 3) := by decide +kernel
theorem dX10_readStep_3 : decode cX10_readStep 3 = .ok (.aload_n 0, 1) := by decide +kernel
theorem dX10_readStep_4 : decode cX10_readStep 4 = .ok (.invokevirtual 138, 3) := by decide +kernel
theorem dX10_readStep_7 : decode cX10_readStep 7 = .ok (.invokestatic 225, 3) := by decide +kernel
theorem dX10_readStep_10 : decode cX10_readStep 10 = .ok (.istore_n 2, 1) := by decide +kernel
theorem dX10_readStep_11 : decode cX10_readStep 11 = .ok (.iload_n 2, 1) := by decide +kernel
theorem dX10_readStep_12 : decode cX10_readStep 12 = .ok (.iconst (-1), 1) := by decide +kernel
theorem dX10_readStep_13 : decode cX10_readStep 13 = .ok (.if_icmp .ne 9, 3) := by decide +kernel
theorem dX10_readStep_16 : decode cX10_readStep 16 = .ok (.aload_n 0, 1) := by decide +kernel
theorem dX10_readStep_17 : decode cX10_readStep 17 = .ok (.invokevirtual 134, 3) := by decide +kernel
theorem dX10_readStep_20 : decode cX10_readStep 20 = .ok (.pop, 1) := by decide +kernel
theorem dX10_readStep_21 : decode cX10_readStep 21 = .ok (.return_, 1) := by decide +kernel
theorem dX10_readStep_22 : decode cX10_readStep 22 = .ok (.aload_n 0, 1) := by decide +kernel
theorem dX10_readStep_23 : decode cX10_readStep 23 = .ok (.dup, 1) := by decide +kernel
theorem dX10_readStep_24 : decode cX10_readStep 24 = .ok (.getfield 119, 3) := by decide +kernel
theorem dX10_readStep_27 : decode cX10_readStep 27 = .ok (.iconst 1, 1) := by decide +kernel
theorem dX10_readStep_28 : decode cX10_readStep 28 = .ok (.iadd, 1) := by decide +kernel
theorem dX10_readStep_29 : decode cX10_readStep 29 = .ok (.putfield 119, 3) := by decide +kernel
theorem dX10_readStep_32 : decode cX10_readStep 32 = .ok (.aload_n 0, 1) := by decide +kernel
theorem dX10_readStep_33 : decode cX10_readStep 33 = .ok (.getfield 55, 3) := by decide +kernel
theorem dX10_readStep_36 : decode cX10_readStep 36 = .ok (.iload_n 1, 1) := by decide +kernel
theorem dX10_readStep_37 : decode cX10_readStep 37 = .ok (.iload_n 2, 1) := by decide +kernel
theorem dX10_readStep_38 : decode cX10_readStep 38 = .ok (.iastore, 1) := by decide +kernel
theorem dX10_readStep_39 : decode cX10_readStep 39 = .ok (.aload_n 0, 1) := by decide +kernel
theorem dX10_readStep_40 : decode cX10_readStep 40 = .ok (.getfield 55, 3) := by decide +kernel
theorem dX10_readStep_43 : decode cX10_readStep 43 = .ok (.iload_n 1, 1) := by decide +kernel
theorem dX10_readStep_44 : decode cX10_readStep 44 = .ok (.iconst 1, 1) := by decide +kernel
theorem dX10_readStep_45 : decode cX10_readStep 45 = .ok (.iadd, 1) := by decide +kernel
theorem dX10_readStep_46 : decode cX10_readStep 46 = .ok (.iconst (-1), 1) := by decide +kernel
theorem dX10_readStep_47 : decode cX10_readStep 47 = .ok (.iastore, 1) := by decide +kernel
theorem dX10_readStep_48 : decode cX10_readStep 48 = .ok (.aload_n 0, 1) := by decide +kernel
theorem dX10_readStep_49 : decode cX10_readStep 49 = .ok (.getfield 55, 3) := by decide +kernel
theorem dX10_readStep_52 : decode cX10_readStep 52 = .ok (.iload_n 1, 1) := by decide +kernel
theorem dX10_readStep_53 : decode cX10_readStep 53 = .ok (.iconst 2, 1) := by decide +kernel
theorem dX10_readStep_54 : decode cX10_readStep 54 = .ok (.iadd, 1) := by decide +kernel
theorem dX10_readStep_55 : decode cX10_readStep 55 = .ok (.iconst (-1), 1) := by decide +kernel
theorem dX10_readStep_56 : decode cX10_readStep 56 = .ok (.iastore, 1) := by decide +kernel
theorem dX10_readStep_57 : decode cX10_readStep 57 = .ok (.iload_n 2, 1) := by decide +kernel
theorem dX10_readStep_58 : decode cX10_readStep 58 = .ok (.iconst 1, 1) := by decide +kernel
theorem dX10_readStep_59 : decode cX10_readStep 59 = .ok (.if_icmp .ne 4, 3) := by decide +kernel
theorem dX10_readStep_62 : decode cX10_readStep 62 = .ok (.return_, 1) := by decide +kernel
theorem dX10_readStep_63 : decode cX10_readStep 63 = .ok (.aload_n 0, 1) := by decide +kernel
theorem dX10_readStep_64 : decode cX10_readStep 64 = .ok (.getfield 55, 3) := by decide +kernel
theorem dX10_readStep_67 : decode cX10_readStep 67 = .ok (.iload_n 1, 1) := by decide +kernel
theorem dX10_readStep_68 : decode cX10_readStep 68 = .ok (.iconst 1, 1) := by decide +kernel
theorem dX10_readStep_69 : decode cX10_readStep 69 = .ok (.iadd, 1) := by decide +kernel
theorem dX10_readStep_70 : decode cX10_readStep 70 = .ok (.aload_n 0, 1) := by decide +kernel
theorem dX10_readStep_71 : decode cX10_readStep 71 = .ok (.invokevirtual 269, 3) := by decide +kernel
theorem dX10_readStep_74 : decode cX10_readStep 74 = .ok (.iastore, 1) := by decide +kernel
theorem dX10_readStep_75 : decode cX10_readStep 75 = .ok (.aload_n 0, 1) := by decide +kernel
theorem dX10_readStep_76 : decode cX10_readStep 76 = .ok (.getfield 128, 3) := by decide +kernel
theorem dX10_readStep_79 : decode cX10_readStep 79 = .ok (.iconst (-1), 1) := by decide +kernel
theorem dX10_readStep_80 : decode cX10_readStep 80 = .ok (.if_icmp .ne 20, 3) := by decide +kernel
theorem dX10_readStep_83 : decode cX10_readStep 83 = .ok (.iload_n 2, 1) := by decide +kernel
theorem dX10_readStep_84 : decode cX10_readStep 84 = .ok (.iconst 1, 1) := by decide +kernel
theorem dX10_readStep_85 : decode cX10_readStep 85 = .ok (.if_icmp .le 15, 3) := by decide +kernel
theorem dX10_readStep_88 : decode cX10_readStep 88 = .ok (.aload_n 0, 1) := by decide +kernel
theorem dX10_readStep_89 : decode cX10_readStep 89 = .ok (.getfield 55, 3) := by decide +kernel
theorem dX10_readStep_92 : decode cX10_readStep 92 = .ok (.iload_n 1, 1) := by decide +kernel
theorem dX10_readStep_93 : decode cX10_readStep 93 = .ok (.iconst 2, 1) := by decide +kernel
theorem dX10_readStep_94 : decode cX10_readStep 94 = .ok (.iadd, 1) := by decide +kernel
theorem dX10_readStep_95 : decode cX10_readStep 95 = .ok (.aload_n 0, 1) := by decide +kernel
theorem dX10_readStep_96 : decode cX10_readStep 96 = .ok (.invokevirtual 269, 3) := by decide +kernel
theorem dX10_readStep_99 : decode cX10_readStep 99 = .ok (.iastore, 1) := by decide +kernel
theorem dX10_readStep_100 : decode cX10_readStep 100 = .ok (.return_, 1) := by decide +kernel
theorem dX10_readPlan_0 : decode cX10_readPlan 0 = .ok (.aload_n 0, 1) := by decide +kernel
theorem dX10_readPlan_1 : decode cX10_readPlan 1 = .ok (.aload_n 0, 1) := by decide +kernel
theorem dX10_readPlan_2 : decode cX10_readPlan 2 = .ok (.getfield 9, 3) := by decide +kernel
theorem dX10_readPlan_5 : decode cX10_readPlan 5 = .ok (.iconst 0, 1) := by decide +kernel
theorem dX10_readPlan_6 : decode cX10_readPlan 6 = .ok (.aload_n 0, 1) := by decide +kernel
theorem dX10_readPlan_7 : decode cX10_readPlan 7 = .ok (.getfield 109, 3) := by decide +kernel
theorem dX10_readPlan_10 : decode cX10_readPlan 10 = .ok (.invokevirtual 207, 3) := by decide +kernel
theorem dX10_readPlan_13 : decode cX10_readPlan 13 = .ok (.iconst 0, 1) := by decide +kernel
theorem dX10_readPlan_14 : decode cX10_readPlan 14 = .ok (.istore_n 1, 1) := by decide +kernel
theorem dX10_readPlan_15 : decode cX10_readPlan 15 = .ok (.iconst 1, 1) := by decide +kernel
theorem dX10_readPlan_16 : decode cX10_readPlan 16 = .ok (.istore_n 2, 1) := by decide +kernel
theorem dX10_readPlan_17 : decode cX10_readPlan 17 = .ok (.iload_n 2, 1) := by decide +kernel
theorem dX10_readPlan_18 : decode cX10_readPlan 18 = .ok (.ifCond .eq 73, 3) := by decide +kernel
theorem dX10_readPlan_21 : decode cX10_readPlan 21 = .ok (.aload_n 0, 1) := by decide +kernel
theorem dX10_readPlan_22 : decode cX10_readPlan 22 = .ok (.iconst 3, 1) := by decide +kernel
theorem dX10_readPlan_23 : decode cX10_readPlan 23 = .ok (.bipush 64, 2) := by decide +kernel
theorem dX10_readPlan_25 : decode cX10_readPlan 25 = .ok (.iload_n 1, 1) := by decide +kernel
theorem dX10_readPlan_26 : decode cX10_readPlan 26 = .ok (.iadd, 1) := by decide +kernel
theorem dX10_readPlan_27 : decode cX10_readPlan 27 = .ok (.imul, 1) := by decide +kernel
theorem dX10_readPlan_28 : decode cX10_readPlan 28 = .ok (.invokevirtual 272, 3) := by decide +kernel
theorem dX10_readPlan_31 : decode cX10_readPlan 31 = .ok (.aload_n 0, 1) := by decide +kernel
theorem dX10_readPlan_32 : decode cX10_readPlan 32 = .ok (.getfield 128, 3) := by decide +kernel
theorem dX10_readPlan_35 : decode cX10_readPlan 35 = .ok (.iconst (-1), 1) := by decide +kernel
theorem dX10_readPlan_36 : decode cX10_readPlan 36 = .ok (.if_icmp .eq 4, 3) := by decide +kernel
theorem dX10_readPlan_39 : decode cX10_readPlan 39 = .ok (.return_, 1) := by decide +kernel
theorem dX10_readPlan_40 : decode cX10_readPlan 40 = .ok (.iinc 1 1, 3) := by decide +kernel
theorem dX10_readPlan_43 : decode cX10_readPlan 43 = .ok (.aload_n 0, 1) := by decide +kernel
theorem dX10_readPlan_44 : decode cX10_readPlan 44 = .ok (.invokevirtual 138, 3) := by decide +kernel
theorem dX10_readPlan_47 : decode cX10_readPlan 47 = .ok (.bipush 59, 2) := by decide +kernel
theorem dX10_readPlan_49 : decode cX10_readPlan 49 = .ok (.if_icmp .ne 7, 3) := by decide +kernel
theorem dX10_readPlan_52 : decode cX10_readPlan 52 = .ok (.iconst 1, 1) := by decide +kernel
theorem dX10_readPlan_53 : decode cX10_readPlan 53 = .ok (.goto 4, 3) := by decide +kernel
theorem dX10_readPlan_56 : decode cX10_readPlan 56 = .ok (.iconst 0, 1) := by decide +kernel
theorem dX10_readPlan_57 : decode cX10_readPlan 57 = .ok (.istore_n 2, 1) := by decide +kernel
theorem dX10_readPlan_58 : decode cX10_readPlan 58 = .ok (.iload_n 2, 1) := by decide +kernel
theorem dX10_readPlan_59 : decode cX10_readPlan 59 = .ok (.ifCond .eq 15, 3) := by decide +kernel
theorem dX10_readPlan_62 : decode cX10_readPlan 62 = .ok (.iload_n 1, 1) := by decide +kernel
theorem dX10_readPlan_63 : decode cX10_readPlan 63 = .ok (.bipush 16, 2) := by decide +kernel
theorem dX10_readPlan_65 : decode cX10_readPlan 65 = .ok (.if_icmp .ne 9, 3) := by decide +kernel
theorem dX10_readPlan_68 : decode cX10_readPlan 68 = .ok (.aload_n 0, 1) := by decide +kernel
theorem dX10_readPlan_69 : decode cX10_readPlan 69 = .ok (.invokevirtual 134, 3) := by decide +kernel
theorem dX10_readPlan_72 : decode cX10_readPlan 72 = .ok (.pop, 1) := by decide +kernel
theorem dX10_readPlan_73 : decode cX10_readPlan 73 = .ok (.return_, 1) := by decide +kernel
theorem dX10_readPlan_74 : decode cX10_readPlan 74 = .ok (.iload_n 2, 1) := by decide +kernel
theorem dX10_readPlan_75 : decode cX10_readPlan 75 = .ok (.ifCond .eq (-58), 3) := by decide +kernel
theorem dX10_readPlan_78 : decode cX10_readPlan 78 = .ok (.aload_n 0, 1) := by decide +kernel
theorem dX10_readPlan_79 : decode cX10_readPlan 79 = .ok (.dup, 1) := by decide +kernel
theorem dX10_readPlan_80 : decode cX10_readPlan 80 = .ok (.getfield 119, 3) := by decide +kernel
theorem dX10_readPlan_83 : decode cX10_readPlan 83 = .ok (.iconst 1, 1) := by decide +kernel
theorem dX10_readPlan_84 : decode cX10_readPlan 84 = .ok (.iadd, 1) := by decide +kernel
theorem dX10_readPlan_85 : decode cX10_readPlan 85 = .ok (.putfield 119, 3) := by decide +kernel
theorem dX10_readPlan_88 : decode cX10_readPlan 88 = .ok (.goto (-71), 3) := by decide +kernel
theorem dX10_readPlan_91 : decode cX10_readPlan 91 = .ok (.aload_n 0, 1) := by decide +kernel
theorem dX10_readPlan_92 : decode cX10_readPlan 92 = .ok (.getfield 58, 3) := by decide +kernel
theorem dX10_readPlan_95 : decode cX10_readPlan 95 = .ok (.iconst 4, 1) := by decide +kernel
theorem dX10_readPlan_96 : decode cX10_readPlan 96 = .ok (.iload_n 1, 1) := by decide +kernel
theorem dX10_readPlan_97 : decode cX10_readPlan 97 = .ok (.iastore, 1) := by decide +kernel
theorem dX10_readPlan_98 : decode cX10_readPlan 98 = .ok (.aload_n 0, 1) := by decide +kernel
theorem dX10_readPlan_99 : decode cX10_readPlan 99 = .ok (.invokevirtual 138, 3) := by decide +kernel
theorem dX10_readPlan_102 : decode cX10_readPlan 102 = .ok (.iconst (-1), 1) := by decide +kernel
theorem dX10_readPlan_103 : decode cX10_readPlan 103 = .ok (.if_icmp .eq 8, 3) := by decide +kernel
theorem dX10_readPlan_106 : decode cX10_readPlan 106 = .ok (.aload_n 0, 1) := by decide +kernel
theorem dX10_readPlan_107 : decode cX10_readPlan 107 = .ok (.invokevirtual 134, 3) := by decide +kernel
theorem dX10_readPlan_110 : decode cX10_readPlan 110 = .ok (.pop, 1) := by decide +kernel
theorem dX10_readPlan_111 : decode cX10_readPlan 111 = .ok (.return_, 1) := by decide +kernel
theorem dX10_fault_0 : decode cX10_fault 0 = .ok (.aload_n 0, 1) := by decide +kernel
theorem dX10_fault_1 : decode cX10_fault 1 = .ok (.iconst 0, 1) := by decide +kernel
theorem dX10_fault_2 : decode cX10_fault 2 = .ok (.putfield 96, 3) := by decide +kernel
theorem dX10_fault_5 : decode cX10_fault 5 = .ok (.iload_n 1, 1) := by decide +kernel
theorem dX10_fault_6 : decode cX10_fault 6 = .ok (.i2l, 1) := by decide +kernel
theorem dX10_fault_7 : decode cX10_fault 7 = .ok (.lconst 0, 1) := by decide +kernel
theorem dX10_fault_8 : decode cX10_fault 8 = .ok (.ldc2_w 275, 3) := by decide +kernel
theorem dX10_fault_11 : decode cX10_fault 11 = .ok (.invokestatic 217, 3) := by decide +kernel
theorem dX10_fault_14 : decode cX10_fault 14 = .ok (.ifCond .ne 6, 3) := by decide +kernel
theorem dX10_fault_17 : decode cX10_fault 17 = .ok (.bipush (-2), 2) := by decide +kernel
theorem dX10_fault_19 : decode cX10_fault 19 = .ok (.ireturn, 1) := by decide +kernel
theorem dX10_fault_20 : decode cX10_fault 20 = .ok (.iload_n 1, 1) := by decide +kernel
theorem dX10_fault_21 : decode cX10_fault 21 = .ok (.ifCond .ne 7, 3) := by decide +kernel
theorem dX10_fault_24 : decode cX10_fault 24 = .ok (.aload_n 0, 1) := by decide +kernel
theorem dX10_fault_25 : decode cX10_fault 25 = .ok (.invokevirtual 277, 3) := by decide +kernel
theorem dX10_fault_28 : decode cX10_fault 28 = .ok (.iload_n 1, 1) := by decide +kernel
theorem dX10_fault_29 : decode cX10_fault 29 = .ok (.iconst 1, 1) := by decide +kernel
theorem dX10_fault_30 : decode cX10_fault 30 = .ok (.if_icmp .ne 16, 3) := by decide +kernel
theorem dX10_fault_33 : decode cX10_fault 33 = .ok (.aload_n 0, 1) := by decide +kernel
theorem dX10_fault_34 : decode cX10_fault 34 = .ok (.aload_n 0, 1) := by decide +kernel
theorem dX10_fault_35 : decode cX10_fault 35 = .ok (.getfield 9, 3) := by decide +kernel
theorem dX10_fault_38 : decode cX10_fault 38 = .ok (.iconst 0, 1) := by decide +kernel
theorem dX10_fault_39 : decode cX10_fault 39 = .ok (.aload_n 0, 1) := by decide +kernel
theorem dX10_fault_40 : decode cX10_fault 40 = .ok (.getfield 109, 3) := by decide +kernel
theorem dX10_fault_43 : decode cX10_fault 43 = .ok (.invokevirtual 280, 3) := by decide +kernel
theorem dX10_fault_46 : decode cX10_fault 46 = .ok (.iload_n 1, 1) := by decide +kernel
theorem dX10_fault_47 : decode cX10_fault 47 = .ok (.iconst 2, 1) := by decide +kernel
theorem dX10_fault_48 : decode cX10_fault 48 = .ok (.if_icmp .ne 7, 3) := by decide +kernel
theorem dX10_fault_51 : decode cX10_fault 51 = .ok (.aload_n 0, 1) := by decide +kernel
theorem dX10_fault_52 : decode cX10_fault 52 = .ok (.invokevirtual 283, 3) := by decide +kernel
theorem dX10_fault_55 : decode cX10_fault 55 = .ok (.aload_n 0, 1) := by decide +kernel
theorem dX10_fault_56 : decode cX10_fault 56 = .ok (.getfield 128, 3) := by decide +kernel
theorem dX10_fault_59 : decode cX10_fault 59 = .ok (.ireturn, 1) := by decide +kernel
theorem dX10_put_0 : decode cX10_put 0 = .ok (.bipush 24, 2) := by decide +kernel
theorem dX10_put_2 : decode cX10_put 2 = .ok (.istore_n 2, 1) := by decide +kernel
theorem dX10_put_3 : decode cX10_put 3 = .ok (.iload_n 2, 1) := by decide +kernel
theorem dX10_put_4 : decode cX10_put 4 = .ok (.ifCond .lt 45, 3) := by decide +kernel
theorem dX10_put_7 : decode cX10_put 7 = .ok (.iload_n 1, 1) := by decide +kernel
theorem dX10_put_8 : decode cX10_put 8 = .ok (.iload_n 2, 1) := by decide +kernel
theorem dX10_put_9 : decode cX10_put 9 = .ok (.ishr, 1) := by decide +kernel
theorem dX10_put_10 : decode cX10_put 10 = .ok (.sipush 255, 3) := by decide +kernel
theorem dX10_put_13 : decode cX10_put 13 = .ok (.iand, 1) := by decide +kernel
theorem dX10_put_14 : decode cX10_put 14 = .ok (.ifCond .ne 6, 3) := by decide +kernel
theorem dX10_put_17 : decode cX10_put 17 = .ok (.goto 26, 3) := by decide +kernel
theorem dX10_put_20 : decode cX10_put 20 = .ok (.aload_n 0, 1) := by decide +kernel
theorem dX10_put_21 : decode cX10_put 21 = .ok (.getfield 9, 3) := by decide +kernel
theorem dX10_put_24 : decode cX10_put 24 = .ok (.aload_n 0, 1) := by decide +kernel
theorem dX10_put_25 : decode cX10_put 25 = .ok (.getfield 109, 3) := by decide +kernel
theorem dX10_put_28 : decode cX10_put 28 = .ok (.iload_n 1, 1) := by decide +kernel
theorem dX10_put_29 : decode cX10_put 29 = .ok (.iload_n 2, 1) := by decide +kernel
theorem dX10_put_30 : decode cX10_put 30 = .ok (.ishr, 1) := by decide +kernel
theorem dX10_put_31 : decode cX10_put 31 = .ok (.i2b, 1) := by decide +kernel
theorem dX10_put_32 : decode cX10_put 32 = .ok (.bastore, 1) := by decide +kernel
theorem dX10_put_33 : decode cX10_put 33 = .ok (.aload_n 0, 1) := by decide +kernel
theorem dX10_put_34 : decode cX10_put 34 = .ok (.dup, 1) := by decide +kernel
theorem dX10_put_35 : decode cX10_put 35 = .ok (.getfield 109, 3) := by decide +kernel
theorem dX10_put_38 : decode cX10_put 38 = .ok (.iconst 1, 1) := by decide +kernel
theorem dX10_put_39 : decode cX10_put 39 = .ok (.iadd, 1) := by decide +kernel
theorem dX10_put_40 : decode cX10_put 40 = .ok (.putfield 109, 3) := by decide +kernel
theorem dX10_put_43 : decode cX10_put 43 = .ok (.iinc 2 (-8), 3) := by decide +kernel
theorem dX10_put_46 : decode cX10_put 46 = .ok (.goto (-43), 3) := by decide +kernel
theorem dX10_put_49 : decode cX10_put 49 = .ok (.return_, 1) := by decide +kernel
theorem dX10_feed_0 : decode cX10_feed 0 = .ok (.aload_n 0, 1) := by decide +kernel
theorem dX10_feed_1 : decode cX10_feed 1 = .ok (.iconst 0, 1) := by decide +kernel
theorem dX10_feed_2 : decode cX10_feed 2 = .ok (.putfield 96, 3) := by decide +kernel
theorem dX10_feed_5 : decode cX10_feed 5 = .ok (.aload_n 0, 1) := by decide +kernel
theorem dX10_feed_6 : decode cX10_feed 6 = .ok (.getfield 109, 3) := by decide +kernel
theorem dX10_feed_9 : decode cX10_feed 9 = .ok (.iload_n 1, 1) := by decide +kernel
theorem dX10_feed_10 : decode cX10_feed 10 = .ok (.invokestatic 111, 3) := by decide +kernel
theorem dX10_feed_13 : decode cX10_feed 13 = .ok (.iadd, 1) := by decide +kernel
theorem dX10_feed_14 : decode cX10_feed 14 = .ok (.iload_n 2, 1) := by decide +kernel
theorem dX10_feed_15 : decode cX10_feed 15 = .ok (.invokestatic 111, 3) := by decide +kernel
theorem dX10_feed_18 : decode cX10_feed 18 = .ok (.iadd, 1) := by decide +kernel
theorem dX10_feed_19 : decode cX10_feed 19 = .ok (.iload_n 3, 1) := by decide +kernel
theorem dX10_feed_20 : decode cX10_feed 20 = .ok (.invokestatic 111, 3) := by decide +kernel
theorem dX10_feed_23 : decode cX10_feed 23 = .ok (.iadd, 1) := by decide +kernel
theorem dX10_feed_24 : decode cX10_feed 24 = .ok (.iload 4, 2) := by decide +kernel
theorem dX10_feed_26 : decode cX10_feed 26 = .ok (.invokestatic 111, 3) := by decide +kernel
theorem dX10_feed_29 : decode cX10_feed 29 = .ok (.iadd, 1) := by decide +kernel
theorem dX10_feed_30 : decode cX10_feed 30 = .ok (.iload 5, 2) := by decide +kernel
theorem dX10_feed_32 : decode cX10_feed 32 = .ok (.invokestatic 111, 3) := by decide +kernel
theorem dX10_feed_35 : decode cX10_feed 35 = .ok (.iadd, 1) := by decide +kernel
theorem dX10_feed_36 : decode cX10_feed 36 = .ok (.sipush 240, 3) := by decide +kernel
theorem dX10_feed_39 : decode cX10_feed 39 = .ok (.if_icmp .le 5, 3) := by decide +kernel
theorem dX10_feed_42 : decode cX10_feed 42 = .ok (.iconst (-1), 1) := by decide +kernel
theorem dX10_feed_43 : decode cX10_feed 43 = .ok (.ireturn, 1) := by decide +kernel
theorem dX10_feed_44 : decode cX10_feed 44 = .ok (.aload_n 0, 1) := by decide +kernel
theorem dX10_feed_45 : decode cX10_feed 45 = .ok (.iload_n 1, 1) := by decide +kernel
theorem dX10_feed_46 : decode cX10_feed 46 = .ok (.invokevirtual 115, 3) := by decide +kernel
theorem dX10_feed_49 : decode cX10_feed 49 = .ok (.aload_n 0, 1) := by decide +kernel
theorem dX10_feed_50 : decode cX10_feed 50 = .ok (.iload_n 2, 1) := by decide +kernel
theorem dX10_feed_51 : decode cX10_feed 51 = .ok (.invokevirtual 115, 3) := by decide +kernel
theorem dX10_feed_54 : decode cX10_feed 54 = .ok (.aload_n 0, 1) := by decide +kernel
theorem dX10_feed_55 : decode cX10_feed 55 = .ok (.iload_n 3, 1) := by decide +kernel
theorem dX10_feed_56 : decode cX10_feed 56 = .ok (.invokevirtual 115, 3) := by decide +kernel
theorem dX10_feed_59 : decode cX10_feed 59 = .ok (.aload_n 0, 1) := by decide +kernel
theorem dX10_feed_60 : decode cX10_feed 60 = .ok (.iload 4, 2) := by decide +kernel
theorem dX10_feed_62 : decode cX10_feed 62 = .ok (.invokevirtual 115, 3) := by decide +kernel
theorem dX10_feed_65 : decode cX10_feed 65 = .ok (.aload_n 0, 1) := by decide +kernel
theorem dX10_feed_66 : decode cX10_feed 66 = .ok (.iload 5, 2) := by decide +kernel
theorem dX10_feed_68 : decode cX10_feed 68 = .ok (.invokevirtual 115, 3) := by decide +kernel
theorem dX10_feed_71 : decode cX10_feed 71 = .ok (.aload_n 0, 1) := by decide +kernel
theorem dX10_feed_72 : decode cX10_feed 72 = .ok (.getfield 109, 3) := by decide +kernel
theorem dX10_feed_75 : decode cX10_feed 75 = .ok (.ireturn, 1) := by decide +kernel
theorem dX10_liking_0 : decode cX10_liking 0 = .ok (.aload_n 0, 1) := by decide +kernel
theorem dX10_liking_1 : decode cX10_liking 1 = .ok (.getfield 61, 3) := by decide +kernel
theorem dX10_liking_4 : decode cX10_liking 4 = .ok (.iload_n 1, 1) := by decide +kernel
theorem dX10_liking_5 : decode cX10_liking 5 = .ok (.invokestatic 334, 3) := by decide +kernel
theorem dX10_liking_8 : decode cX10_liking 8 = .ok (.aload_n 0, 1) := by decide +kernel
theorem dX10_liking_9 : decode cX10_liking 9 = .ok (.getfield 61, 3) := by decide +kernel
theorem dX10_liking_12 : decode cX10_liking 12 = .ok (.bipush 36, 2) := by decide +kernel
theorem dX10_liking_14 : decode cX10_liking 14 = .ok (.iconst 2, 1) := by decide +kernel
theorem dX10_liking_15 : decode cX10_liking 15 = .ok (.iload_n 2, 1) := by decide +kernel
theorem dX10_liking_16 : decode cX10_liking 16 = .ok (.imul, 1) := by decide +kernel
theorem dX10_liking_17 : decode cX10_liking 17 = .ok (.iadd, 1) := by decide +kernel
theorem dX10_liking_18 : decode cX10_liking 18 = .ok (.iconst 1, 1) := by decide +kernel
theorem dX10_liking_19 : decode cX10_liking 19 = .ok (.iadd, 1) := by decide +kernel
theorem dX10_liking_20 : decode cX10_liking 20 = .ok (.iaload, 1) := by decide +kernel
theorem dX10_liking_21 : decode cX10_liking 21 = .ok (.isub, 1) := by decide +kernel
theorem dX10_liking_22 : decode cX10_liking 22 = .ok (.ireturn, 1) := by decide +kernel
theorem dX10_has0_0 : decode cX10_has0 0 = .ok (.aload_n 0, 1) := by decide +kernel
theorem dX10_has0_1 : decode cX10_has0 1 = .ok (.getfield 81, 3) := by decide +kernel
theorem dX10_has0_4 : decode cX10_has0 4 = .ok (.iload_n 1, 1) := by decide +kernel
theorem dX10_has0_5 : decode cX10_has0 5 = .ok (.iaload, 1) := by decide +kernel
theorem dX10_has0_6 : decode cX10_has0 6 = .ok (.bipush 9, 2) := by decide +kernel
theorem dX10_has0_8 : decode cX10_has0 8 = .ok (.if_icmp .ne 7, 3) := by decide +kernel
theorem dX10_has0_11 : decode cX10_has0 11 = .ok (.iconst 0, 1) := by decide +kernel
theorem dX10_has0_12 : decode cX10_has0 12 = .ok (.goto 14, 3) := by decide +kernel
theorem dX10_has0_15 : decode cX10_has0 15 = .ok (.aload_n 0, 1) := by decide +kernel
theorem dX10_has0_16 : decode cX10_has0 16 = .ok (.iload_n 1, 1) := by decide +kernel
theorem dX10_has0_17 : decode cX10_has0 17 = .ok (.aload_n 0, 1) := by decide +kernel
theorem dX10_has0_18 : decode cX10_has0 18 = .ok (.getfield 81, 3) := by decide +kernel
theorem dX10_has0_21 : decode cX10_has0 21 = .ok (.iload_n 1, 1) := by decide +kernel
theorem dX10_has0_22 : decode cX10_has0 22 = .ok (.iaload, 1) := by decide +kernel
theorem dX10_has0_23 : decode cX10_has0 23 = .ok (.invokevirtual 457, 3) := by decide +kernel
theorem dX10_has0_26 : decode cX10_has0 26 = .ok (.ireturn, 1) := by decide +kernel
theorem dX10_isFirm_0 : decode cX10_isFirm 0 = .ok (.iconst 0, 1) := by decide +kernel
theorem dX10_isFirm_1 : decode cX10_isFirm 1 = .ok (.istore_n 1, 1) := by decide +kernel
theorem dX10_isFirm_2 : decode cX10_isFirm 2 = .ok (.iload_n 1, 1) := by decide +kernel
theorem dX10_isFirm_3 : decode cX10_isFirm 3 = .ok (.aload_n 0, 1) := by decide +kernel
theorem dX10_isFirm_4 : decode cX10_isFirm 4 = .ok (.getfield 294, 3) := by decide +kernel
theorem dX10_isFirm_7 : decode cX10_isFirm 7 = .ok (.if_icmp .ge 36, 3) := by decide +kernel
theorem dX10_isFirm_10 : decode cX10_isFirm 10 = .ok (.aload_n 0, 1) := by decide +kernel
theorem dX10_isFirm_11 : decode cX10_isFirm 11 = .ok (.getfield 81, 3) := by decide +kernel
theorem dX10_isFirm_14 : decode cX10_isFirm 14 = .ok (.iload_n 1, 1) := by decide +kernel
theorem dX10_isFirm_15 : decode cX10_isFirm 15 = .ok (.iaload, 1) := by decide +kernel
theorem dX10_isFirm_16 : decode cX10_isFirm 16 = .ok (.bipush 9, 2) := by decide +kernel
theorem dX10_isFirm_18 : decode cX10_isFirm 18 = .ok (.if_icmp .eq 19, 3) := by decide +kernel
theorem dX10_isFirm_21 : decode cX10_isFirm 21 = .ok (.aload_n 0, 1) := by decide +kernel
theorem dX10_isFirm_22 : decode cX10_isFirm 22 = .ok (.iload_n 1, 1) := by decide +kernel
theorem dX10_isFirm_23 : decode cX10_isFirm 23 = .ok (.aload_n 0, 1) := by decide +kernel
theorem dX10_isFirm_24 : decode cX10_isFirm 24 = .ok (.getfield 81, 3) := by decide +kernel
theorem dX10_isFirm_27 : decode cX10_isFirm 27 = .ok (.iload_n 1, 1) := by decide +kernel
theorem dX10_isFirm_28 : decode cX10_isFirm 28 = .ok (.iaload, 1) := by decide +kernel
theorem dX10_isFirm_29 : decode cX10_isFirm 29 = .ok (.invokevirtual 457, 3) := by decide +kernel
theorem dX10_isFirm_32 : decode cX10_isFirm 32 = .ok (.ifCond .ge 5, 3) := by decide +kernel
theorem dX10_isFirm_35 : decode cX10_isFirm 35 = .ok (.iconst 0, 1) := by decide +kernel
theorem dX10_isFirm_36 : decode cX10_isFirm 36 = .ok (.ireturn, 1) := by decide +kernel
theorem dX10_isFirm_37 : decode cX10_isFirm 37 = .ok (.iinc 1 1, 3) := by decide +kernel
theorem dX10_isFirm_40 : decode cX10_isFirm 40 = .ok (.goto (-38), 3) := by decide +kernel
theorem dX10_isFirm_43 : decode cX10_isFirm 43 = .ok (.iconst 0, 1) := by decide +kernel
theorem dX10_isFirm_44 : decode cX10_isFirm 44 = .ok (.istore_n 1, 1) := by decide +kernel
theorem dX10_isFirm_45 : decode cX10_isFirm 45 = .ok (.iload_n 1, 1) := by decide +kernel
theorem dX10_isFirm_46 : decode cX10_isFirm 46 = .ok (.aload_n 0, 1) := by decide +kernel
theorem dX10_isFirm_47 : decode cX10_isFirm 47 = .ok (.getfield 294, 3) := by decide +kernel
theorem dX10_isFirm_50 : decode cX10_isFirm 50 = .ok (.if_icmp .ge 67, 3) := by decide +kernel
theorem dX10_isFirm_53 : decode cX10_isFirm 53 = .ok (.iload_n 1, 1) := by decide +kernel
theorem dX10_isFirm_54 : decode cX10_isFirm 54 = .ok (.iconst 1, 1) := by decide +kernel
theorem dX10_isFirm_55 : decode cX10_isFirm 55 = .ok (.iadd, 1) := by decide +kernel
theorem dX10_isFirm_56 : decode cX10_isFirm 56 = .ok (.istore_n 2, 1) := by decide +kernel
theorem dX10_isFirm_57 : decode cX10_isFirm 57 = .ok (.iload_n 2, 1) := by decide +kernel
theorem dX10_isFirm_58 : decode cX10_isFirm 58 = .ok (.aload_n 0, 1) := by decide +kernel
theorem dX10_isFirm_59 : decode cX10_isFirm 59 = .ok (.getfield 294, 3) := by decide +kernel
theorem dX10_isFirm_62 : decode cX10_isFirm 62 = .ok (.if_icmp .ge 49, 3) := by decide +kernel
theorem dX10_isFirm_65 : decode cX10_isFirm 65 = .ok (.aload_n 0, 1) := by decide +kernel
theorem dX10_isFirm_66 : decode cX10_isFirm 66 = .ok (.getfield 81, 3) := by decide +kernel
theorem dX10_isFirm_69 : decode cX10_isFirm 69 = .ok (.iload_n 1, 1) := by decide +kernel
theorem dX10_isFirm_70 : decode cX10_isFirm 70 = .ok (.iaload, 1) := by decide +kernel
theorem dX10_isFirm_71 : decode cX10_isFirm 71 = .ok (.iload_n 2, 1) := by decide +kernel
theorem dX10_isFirm_72 : decode cX10_isFirm 72 = .ok (.if_icmp .eq 33, 3) := by decide +kernel
theorem dX10_isFirm_75 : decode cX10_isFirm 75 = .ok (.aload_n 0, 1) := by decide +kernel
theorem dX10_isFirm_76 : decode cX10_isFirm 76 = .ok (.iload_n 1, 1) := by decide +kernel
theorem dX10_isFirm_77 : decode cX10_isFirm 77 = .ok (.iload_n 2, 1) := by decide +kernel
theorem dX10_isFirm_78 : decode cX10_isFirm 78 = .ok (.invokevirtual 457, 3) := by decide +kernel
theorem dX10_isFirm_81 : decode cX10_isFirm 81 = .ok (.aload_n 0, 1) := by decide +kernel
theorem dX10_isFirm_82 : decode cX10_isFirm 82 = .ok (.iload_n 1, 1) := by decide +kernel
theorem dX10_isFirm_83 : decode cX10_isFirm 83 = .ok (.invokevirtual 460, 3) := by decide +kernel
theorem dX10_isFirm_86 : decode cX10_isFirm 86 = .ok (.if_icmp .le 19, 3) := by decide +kernel
theorem dX10_isFirm_89 : decode cX10_isFirm 89 = .ok (.aload_n 0, 1) := by decide +kernel
theorem dX10_isFirm_90 : decode cX10_isFirm 90 = .ok (.iload_n 2, 1) := by decide +kernel
theorem dX10_isFirm_91 : decode cX10_isFirm 91 = .ok (.iload_n 1, 1) := by decide +kernel
theorem dX10_isFirm_92 : decode cX10_isFirm 92 = .ok (.invokevirtual 457, 3) := by decide +kernel
theorem dX10_isFirm_95 : decode cX10_isFirm 95 = .ok (.aload_n 0, 1) := by decide +kernel
theorem dX10_isFirm_96 : decode cX10_isFirm 96 = .ok (.iload_n 2, 1) := by decide +kernel
theorem dX10_isFirm_97 : decode cX10_isFirm 97 = .ok (.invokevirtual 460, 3) := by decide +kernel
theorem dX10_isFirm_100 : decode cX10_isFirm 100 = .ok (.if_icmp .le 5, 3) := by decide +kernel
theorem dX10_isFirm_103 : decode cX10_isFirm 103 = .ok (.iconst 0, 1) := by decide +kernel
theorem dX10_isFirm_104 : decode cX10_isFirm 104 = .ok (.ireturn, 1) := by decide +kernel
theorem dX10_isFirm_105 : decode cX10_isFirm 105 = .ok (.iinc 2 1, 3) := by decide +kernel
theorem dX10_isFirm_108 : decode cX10_isFirm 108 = .ok (.goto (-51), 3) := by decide +kernel
theorem dX10_isFirm_111 : decode cX10_isFirm 111 = .ok (.iinc 1 1, 3) := by decide +kernel
theorem dX10_isFirm_114 : decode cX10_isFirm 114 = .ok (.goto (-69), 3) := by decide +kernel
theorem dX10_isFirm_117 : decode cX10_isFirm 117 = .ok (.iconst 1, 1) := by decide +kernel
theorem dX10_isFirm_118 : decode cX10_isFirm 118 = .ok (.ireturn, 1) := by decide +kernel
theorem dX10_rowOf_0 : decode cX10_rowOf 0 = .ok (.iconst 0, 1) := by decide +kernel
theorem dX10_rowOf_1 : decode cX10_rowOf 1 = .ok (.istore_n 1, 1) := by decide +kernel
theorem dX10_rowOf_2 : decode cX10_rowOf 2 = .ok (.iconst 0, 1) := by decide +kernel
theorem dX10_rowOf_3 : decode cX10_rowOf 3 = .ok (.istore_n 2, 1) := by decide +kernel
theorem dX10_rowOf_4 : decode cX10_rowOf 4 = .ok (.iload_n 2, 1) := by decide +kernel
theorem dX10_rowOf_5 : decode cX10_rowOf 5 = .ok (.aload_n 0, 1) := by decide +kernel
theorem dX10_rowOf_6 : decode cX10_rowOf 6 = .ok (.getfield 294, 3) := by decide +kernel
theorem dX10_rowOf_9 : decode cX10_rowOf 9 = .ok (.if_icmp .ge 36, 3) := by decide +kernel
theorem dX10_rowOf_12 : decode cX10_rowOf 12 = .ok (.bipush 10, 2) := by decide +kernel
theorem dX10_rowOf_14 : decode cX10_rowOf 14 = .ok (.iload_n 1, 1) := by decide +kernel
theorem dX10_rowOf_15 : decode cX10_rowOf 15 = .ok (.imul, 1) := by decide +kernel
theorem dX10_rowOf_16 : decode cX10_rowOf 16 = .ok (.aload_n 0, 1) := by decide +kernel
theorem dX10_rowOf_17 : decode cX10_rowOf 17 = .ok (.getfield 81, 3) := by decide +kernel
theorem dX10_rowOf_20 : decode cX10_rowOf 20 = .ok (.iload_n 2, 1) := by decide +kernel
theorem dX10_rowOf_21 : decode cX10_rowOf 21 = .ok (.iaload, 1) := by decide +kernel
theorem dX10_rowOf_22 : decode cX10_rowOf 22 = .ok (.iconst (-1), 1) := by decide +kernel
theorem dX10_rowOf_23 : decode cX10_rowOf 23 = .ok (.if_icmp .ne 8, 3) := by decide +kernel
theorem dX10_rowOf_26 : decode cX10_rowOf 26 = .ok (.bipush 9, 2) := by decide +kernel
theorem dX10_rowOf_28 : decode cX10_rowOf 28 = .ok (.goto 9, 3) := by decide +kernel
theorem dX10_rowOf_31 : decode cX10_rowOf 31 = .ok (.aload_n 0, 1) := by decide +kernel
theorem dX10_rowOf_32 : decode cX10_rowOf 32 = .ok (.getfield 81, 3) := by decide +kernel
theorem dX10_rowOf_35 : decode cX10_rowOf 35 = .ok (.iload_n 2, 1) := by decide +kernel
theorem dX10_rowOf_36 : decode cX10_rowOf 36 = .ok (.iaload, 1) := by decide +kernel
theorem dX10_rowOf_37 : decode cX10_rowOf 37 = .ok (.iadd, 1) := by decide +kernel
theorem dX10_rowOf_38 : decode cX10_rowOf 38 = .ok (.istore_n 1, 1) := by decide +kernel
theorem dX10_rowOf_39 : decode cX10_rowOf 39 = .ok (.iinc 2 1, 3) := by decide +kernel
theorem dX10_rowOf_42 : decode cX10_rowOf 42 = .ok (.goto (-38), 3) := by decide +kernel
theorem dX10_rowOf_45 : decode cX10_rowOf 45 = .ok (.iload_n 1, 1) := by decide +kernel
theorem dX10_rowOf_46 : decode cX10_rowOf 46 = .ok (.ireturn, 1) := by decide +kernel
theorem dX10_goFirm_0 : decode cX10_goFirm 0 = .ok (.iload_n 1, 1) := by decide +kernel
theorem dX10_goFirm_1 : decode cX10_goFirm 1 = .ok (.istore_n 2, 1) := by decide +kernel
theorem dX10_goFirm_2 : decode cX10_goFirm 2 = .ok (.iload_n 2, 1) := by decide +kernel
theorem dX10_goFirm_3 : decode cX10_goFirm 3 = .ok (.aload_n 0, 1) := by decide +kernel
theorem dX10_goFirm_4 : decode cX10_goFirm 4 = .ok (.getfield 294, 3) := by decide +kernel
theorem dX10_goFirm_7 : decode cX10_goFirm 7 = .ok (.if_icmp .ge 19, 3) := by decide +kernel
theorem dX10_goFirm_10 : decode cX10_goFirm 10 = .ok (.aload_n 0, 1) := by decide +kernel
theorem dX10_goFirm_11 : decode cX10_goFirm 11 = .ok (.getfield 81, 3) := by decide +kernel
theorem dX10_goFirm_14 : decode cX10_goFirm 14 = .ok (.iload_n 2, 1) := by decide +kernel
theorem dX10_goFirm_15 : decode cX10_goFirm 15 = .ok (.iaload, 1) := by decide +kernel
theorem dX10_goFirm_16 : decode cX10_goFirm 16 = .ok (.iconst (-1), 1) := by decide +kernel
theorem dX10_goFirm_17 : decode cX10_goFirm 17 = .ok (.if_icmp .eq 9, 3) := by decide +kernel
theorem dX10_goFirm_20 : decode cX10_goFirm 20 = .ok (.iinc 2 1, 3) := by decide +kernel
theorem dX10_goFirm_23 : decode cX10_goFirm 23 = .ok (.goto (-21), 3) := by decide +kernel
theorem dX10_goFirm_26 : decode cX10_goFirm 26 = .ok (.iload_n 2, 1) := by decide +kernel
theorem dX10_goFirm_27 : decode cX10_goFirm 27 = .ok (.aload_n 0, 1) := by decide +kernel
theorem dX10_goFirm_28 : decode cX10_goFirm 28 = .ok (.getfield 294, 3) := by decide +kernel
theorem dX10_goFirm_31 : decode cX10_goFirm 31 = .ok (.if_icmp .ne 41, 3) := by decide +kernel
theorem dX10_goFirm_34 : decode cX10_goFirm 34 = .ok (.aload_n 0, 1) := by decide +kernel
theorem dX10_goFirm_35 : decode cX10_goFirm 35 = .ok (.invokevirtual 463, 3) := by decide +kernel
theorem dX10_goFirm_38 : decode cX10_goFirm 38 = .ok (.ifCond .ne 4, 3) := by decide +kernel
theorem dX10_goFirm_41 : decode cX10_goFirm 41 = .ok (.return_, 1) := by decide +kernel
theorem dX10_goFirm_42 : decode cX10_goFirm 42 = .ok (.aload_n 0, 1) := by decide +kernel
theorem dX10_goFirm_43 : decode cX10_goFirm 43 = .ok (.getfield 466, 3) := by decide +kernel
theorem dX10_goFirm_46 : decode cX10_goFirm 46 = .ok (.aload_n 0, 1) := by decide +kernel
theorem dX10_goFirm_47 : decode cX10_goFirm 47 = .ok (.getfield 469, 3) := by decide +kernel
theorem dX10_goFirm_50 : decode cX10_goFirm 50 = .ok (.if_icmp .ne 11, 3) := by decide +kernel
theorem dX10_goFirm_53 : decode cX10_goFirm 53 = .ok (.aload_n 0, 1) := by decide +kernel
theorem dX10_goFirm_54 : decode cX10_goFirm 54 = .ok (.aload_n 0, 1) := by decide +kernel
theorem dX10_goFirm_55 : decode cX10_goFirm 55 = .ok (.invokevirtual 439, 3) := by decide +kernel
theorem dX10_goFirm_58 : decode cX10_goFirm 58 = .ok (.putfield 472, 3) := by decide +kernel
theorem dX10_goFirm_61 : decode cX10_goFirm 61 = .ok (.aload_n 0, 1) := by decide +kernel
theorem dX10_goFirm_62 : decode cX10_goFirm 62 = .ok (.dup, 1) := by decide +kernel
theorem dX10_goFirm_63 : decode cX10_goFirm 63 = .ok (.getfield 466, 3) := by decide +kernel
theorem dX10_goFirm_66 : decode cX10_goFirm 66 = .ok (.iconst 1, 1) := by decide +kernel
theorem dX10_goFirm_67 : decode cX10_goFirm 67 = .ok (.iadd, 1) := by decide +kernel
theorem dX10_goFirm_68 : decode cX10_goFirm 68 = .ok (.putfield 466, 3) := by decide +kernel
theorem dX10_goFirm_71 : decode cX10_goFirm 71 = .ok (.return_, 1) := by decide +kernel
theorem dX10_goFirm_72 : decode cX10_goFirm 72 = .ok (.iload_n 2, 1) := by decide +kernel
theorem dX10_goFirm_73 : decode cX10_goFirm 73 = .ok (.iconst 1, 1) := by decide +kernel
theorem dX10_goFirm_74 : decode cX10_goFirm 74 = .ok (.iadd, 1) := by decide +kernel
theorem dX10_goFirm_75 : decode cX10_goFirm 75 = .ok (.istore_n 3, 1) := by decide +kernel
theorem dX10_goFirm_76 : decode cX10_goFirm 76 = .ok (.iload_n 3, 1) := by decide +kernel
theorem dX10_goFirm_77 : decode cX10_goFirm 77 = .ok (.aload_n 0, 1) := by decide +kernel
theorem dX10_goFirm_78 : decode cX10_goFirm 78 = .ok (.getfield 294, 3) := by decide +kernel
theorem dX10_goFirm_81 : decode cX10_goFirm 81 = .ok (.if_icmp .ge 50, 3) := by decide +kernel
theorem dX10_goFirm_84 : decode cX10_goFirm 84 = .ok (.aload_n 0, 1) := by decide +kernel
theorem dX10_goFirm_85 : decode cX10_goFirm 85 = .ok (.getfield 81, 3) := by decide +kernel
theorem dX10_goFirm_88 : decode cX10_goFirm 88 = .ok (.iload_n 3, 1) := by decide +kernel
theorem dX10_goFirm_89 : decode cX10_goFirm 89 = .ok (.iaload, 1) := by decide +kernel
theorem dX10_goFirm_90 : decode cX10_goFirm 90 = .ok (.iconst (-1), 1) := by decide +kernel
theorem dX10_goFirm_91 : decode cX10_goFirm 91 = .ok (.if_icmp .eq 6, 3) := by decide +kernel
theorem dX10_goFirm_94 : decode cX10_goFirm 94 = .ok (.goto 31, 3) := by decide +kernel
theorem dX10_goFirm_97 : decode cX10_goFirm 97 = .ok (.aload_n 0, 1) := by decide +kernel
theorem dX10_goFirm_98 : decode cX10_goFirm 98 = .ok (.getfield 81, 3) := by decide +kernel
theorem dX10_goFirm_101 : decode cX10_goFirm 101 = .ok (.iload_n 2, 1) := by decide +kernel
theorem dX10_goFirm_102 : decode cX10_goFirm 102 = .ok (.iload_n 3, 1) := by decide +kernel
theorem dX10_goFirm_103 : decode cX10_goFirm 103 = .ok (.iastore, 1) := by decide +kernel
theorem dX10_goFirm_104 : decode cX10_goFirm 104 = .ok (.aload_n 0, 1) := by decide +kernel
theorem dX10_goFirm_105 : decode cX10_goFirm 105 = .ok (.getfield 81, 3) := by decide +kernel
theorem dX10_goFirm_108 : decode cX10_goFirm 108 = .ok (.iload_n 3, 1) := by decide +kernel
theorem dX10_goFirm_109 : decode cX10_goFirm 109 = .ok (.iload_n 2, 1) := by decide +kernel
theorem dX10_goFirm_110 : decode cX10_goFirm 110 = .ok (.iastore, 1) := by decide +kernel
theorem dX10_goFirm_111 : decode cX10_goFirm 111 = .ok (.aload_n 0, 1) := by decide +kernel
theorem dX10_goFirm_112 : decode cX10_goFirm 112 = .ok (.iload_n 2, 1) := by decide +kernel
theorem dX10_goFirm_113 : decode cX10_goFirm 113 = .ok (.iconst 1, 1) := by decide +kernel
theorem dX10_goFirm_114 : decode cX10_goFirm 114 = .ok (.iadd, 1) := by decide +kernel
theorem dX10_goFirm_115 : decode cX10_goFirm 115 = .ok (.invokevirtual 475, 3) := by decide +kernel
theorem dX10_goFirm_118 : decode cX10_goFirm 118 = .ok (.aload_n 0, 1) := by decide +kernel
theorem dX10_goFirm_119 : decode cX10_goFirm 119 = .ok (.getfield 81, 3) := by decide +kernel
theorem dX10_goFirm_122 : decode cX10_goFirm 122 = .ok (.iload_n 3, 1) := by decide +kernel
theorem dX10_goFirm_123 : decode cX10_goFirm 123 = .ok (.iconst (-1), 1) := by decide +kernel
theorem dX10_goFirm_124 : decode cX10_goFirm 124 = .ok (.iastore, 1) := by decide +kernel
theorem dX10_goFirm_125 : decode cX10_goFirm 125 = .ok (.iinc 3 1, 3) := by decide +kernel
theorem dX10_goFirm_128 : decode cX10_goFirm 128 = .ok (.goto (-52), 3) := by decide +kernel
theorem dX10_goFirm_131 : decode cX10_goFirm 131 = .ok (.aload_n 0, 1) := by decide +kernel
theorem dX10_goFirm_132 : decode cX10_goFirm 132 = .ok (.getfield 81, 3) := by decide +kernel
theorem dX10_goFirm_135 : decode cX10_goFirm 135 = .ok (.iload_n 2, 1) := by decide +kernel
theorem dX10_goFirm_136 : decode cX10_goFirm 136 = .ok (.bipush 9, 2) := by decide +kernel
theorem dX10_goFirm_138 : decode cX10_goFirm 138 = .ok (.iastore, 1) := by decide +kernel
theorem dX10_goFirm_139 : decode cX10_goFirm 139 = .ok (.aload_n 0, 1) := by decide +kernel
theorem dX10_goFirm_140 : decode cX10_goFirm 140 = .ok (.iload_n 2, 1) := by decide +kernel
theorem dX10_goFirm_141 : decode cX10_goFirm 141 = .ok (.iconst 1, 1) := by decide +kernel
theorem dX10_goFirm_142 : decode cX10_goFirm 142 = .ok (.iadd, 1) := by decide +kernel
theorem dX10_goFirm_143 : decode cX10_goFirm 143 = .ok (.invokevirtual 475, 3) := by decide +kernel
theorem dX10_goFirm_146 : decode cX10_goFirm 146 = .ok (.aload_n 0, 1) := by decide +kernel
theorem dX10_goFirm_147 : decode cX10_goFirm 147 = .ok (.getfield 81, 3) := by decide +kernel
theorem dX10_goFirm_150 : decode cX10_goFirm 150 = .ok (.iload_n 2, 1) := by decide +kernel
theorem dX10_goFirm_151 : decode cX10_goFirm 151 = .ok (.iconst (-1), 1) := by decide +kernel
theorem dX10_goFirm_152 : decode cX10_goFirm 152 = .ok (.iastore, 1) := by decide +kernel
theorem dX10_goFirm_153 : decode cX10_goFirm 153 = .ok (.return_, 1) := by decide +kernel
theorem dX10_firm_0 : decode cX10_firm 0 = .ok (.aload_n 0, 1) := by decide +kernel
theorem dX10_firm_1 : decode cX10_firm 1 = .ok (.iconst 0, 1) := by decide +kernel
theorem dX10_firm_2 : decode cX10_firm 2 = .ok (.putfield 96, 3) := by decide +kernel
theorem dX10_firm_5 : decode cX10_firm 5 = .ok (.aload_n 0, 1) := by decide +kernel
theorem dX10_firm_6 : decode cX10_firm 6 = .ok (.getfield 294, 3) := by decide +kernel
theorem dX10_firm_9 : decode cX10_firm 9 = .ok (.ifCond .eq 8, 3) := by decide +kernel
theorem dX10_firm_12 : decode cX10_firm 12 = .ok (.iload_n 1, 1) := by decide +kernel
theorem dX10_firm_13 : decode cX10_firm 13 = .ok (.iconst (-1), 1) := by decide +kernel
theorem dX10_firm_14 : decode cX10_firm 14 = .ok (.if_icmp .ge 5, 3) := by decide +kernel
theorem dX10_firm_17 : decode cX10_firm 17 = .ok (.iconst (-1), 1) := by decide +kernel
theorem dX10_firm_18 : decode cX10_firm 18 = .ok (.ireturn, 1) := by decide +kernel
theorem dX10_firm_19 : decode cX10_firm 19 = .ok (.iconst 0, 1) := by decide +kernel
theorem dX10_firm_20 : decode cX10_firm 20 = .ok (.istore_n 2, 1) := by decide +kernel
theorem dX10_firm_21 : decode cX10_firm 21 = .ok (.iload_n 2, 1) := by decide +kernel
theorem dX10_firm_22 : decode cX10_firm 22 = .ok (.bipush 6, 2) := by decide +kernel
theorem dX10_firm_24 : decode cX10_firm 24 = .ok (.if_icmp .ge 16, 3) := by decide +kernel
theorem dX10_firm_27 : decode cX10_firm 27 = .ok (.aload_n 0, 1) := by decide +kernel
theorem dX10_firm_28 : decode cX10_firm 28 = .ok (.getfield 81, 3) := by decide +kernel
theorem dX10_firm_31 : decode cX10_firm 31 = .ok (.iload_n 2, 1) := by decide +kernel
theorem dX10_firm_32 : decode cX10_firm 32 = .ok (.iconst (-1), 1) := by decide +kernel
theorem dX10_firm_33 : decode cX10_firm 33 = .ok (.iastore, 1) := by decide +kernel
theorem dX10_firm_34 : decode cX10_firm 34 = .ok (.iinc 2 1, 3) := by decide +kernel
theorem dX10_firm_37 : decode cX10_firm 37 = .ok (.goto (-16), 3) := by decide +kernel
theorem dX10_firm_40 : decode cX10_firm 40 = .ok (.aload_n 0, 1) := by decide +kernel
theorem dX10_firm_41 : decode cX10_firm 41 = .ok (.iconst 0, 1) := by decide +kernel
theorem dX10_firm_42 : decode cX10_firm 42 = .ok (.putfield 466, 3) := by decide +kernel
theorem dX10_firm_45 : decode cX10_firm 45 = .ok (.aload_n 0, 1) := by decide +kernel
theorem dX10_firm_46 : decode cX10_firm 46 = .ok (.iload_n 1, 1) := by decide +kernel
theorem dX10_firm_47 : decode cX10_firm 47 = .ok (.putfield 469, 3) := by decide +kernel
theorem dX10_firm_50 : decode cX10_firm 50 = .ok (.aload_n 0, 1) := by decide +kernel
theorem dX10_firm_51 : decode cX10_firm 51 = .ok (.iconst (-1), 1) := by decide +kernel
theorem dX10_firm_52 : decode cX10_firm 52 = .ok (.putfield 472, 3) := by decide +kernel
theorem dX10_firm_55 : decode cX10_firm 55 = .ok (.aload_n 0, 1) := by decide +kernel
theorem dX10_firm_56 : decode cX10_firm 56 = .ok (.iconst 0, 1) := by decide +kernel
theorem dX10_firm_57 : decode cX10_firm 57 = .ok (.invokevirtual 475, 3) := by decide +kernel
theorem dX10_firm_60 : decode cX10_firm 60 = .ok (.iload_n 1, 1) := by decide +kernel
theorem dX10_firm_61 : decode cX10_firm 61 = .ok (.iconst (-1), 1) := by decide +kernel
theorem dX10_firm_62 : decode cX10_firm 62 = .ok (.if_icmp .ne 10, 3) := by decide +kernel
theorem dX10_firm_65 : decode cX10_firm 65 = .ok (.aload_n 0, 1) := by decide +kernel
theorem dX10_firm_66 : decode cX10_firm 66 = .ok (.getfield 466, 3) := by decide +kernel
theorem dX10_firm_69 : decode cX10_firm 69 = .ok (.goto 7, 3) := by decide +kernel
theorem dX10_firm_72 : decode cX10_firm 72 = .ok (.aload_n 0, 1) := by decide +kernel
theorem dX10_firm_73 : decode cX10_firm 73 = .ok (.getfield 472, 3) := by decide +kernel
theorem dX10_firm_76 : decode cX10_firm 76 = .ok (.ireturn, 1) := by decide +kernel
theorem dX10_gameOf_0 : decode cX10_gameOf 0 = .ok (.iload 5, 2) := by decide +kernel
theorem dX10_gameOf_2 : decode cX10_gameOf 2 = .ok (.ifCond .ne 7, 3) := by decide +kernel
theorem dX10_gameOf_5 : decode cX10_gameOf 5 = .ok (.iload_n 1, 1) := by decide +kernel
theorem dX10_gameOf_6 : decode cX10_gameOf 6 = .ok (.goto 4, 3) := by decide +kernel
theorem dX10_gameOf_9 : decode cX10_gameOf 9 = .ok (.iload_n 2, 1) := by decide +kernel
theorem dX10_gameOf_10 : decode cX10_gameOf 10 = .ok (.istore 6, 2) := by decide +kernel
theorem dX10_gameOf_12 : decode cX10_gameOf 12 = .ok (.iload 5, 2) := by decide +kernel
theorem dX10_gameOf_14 : decode cX10_gameOf 14 = .ok (.ifCond .ne 7, 3) := by decide +kernel
theorem dX10_gameOf_17 : decode cX10_gameOf 17 = .ok (.iload_n 3, 1) := by decide +kernel
theorem dX10_gameOf_18 : decode cX10_gameOf 18 = .ok (.goto 5, 3) := by decide +kernel
theorem dX10_gameOf_21 : decode cX10_gameOf 21 = .ok (.iload 4, 2) := by decide +kernel
theorem dX10_gameOf_23 : decode cX10_gameOf 23 = .ok (.istore 7, 2) := by decide +kernel
theorem dX10_gameOf_25 : decode cX10_gameOf 25 = .ok (.iload 7, 2) := by decide +kernel
theorem dX10_gameOf_27 : decode cX10_gameOf 27 = .ok (.iload 6, 2) := by decide +kernel
theorem dX10_gameOf_29 : decode cX10_gameOf 29 = .ok (.if_icmp .eq 12, 3) := by decide +kernel
theorem dX10_gameOf_32 : decode cX10_gameOf 32 = .ok (.aload_n 0, 1) := by decide +kernel
theorem dX10_gameOf_33 : decode cX10_gameOf 33 = .ok (.iload 7, 2) := by decide +kernel
theorem dX10_gameOf_35 : decode cX10_gameOf 35 = .ok (.invokevirtual 309, 3) := by decide +kernel
theorem dX10_gameOf_38 : decode cX10_gameOf 38 = .ok (.ifCond .ne 8, 3) := by decide +kernel
theorem dX10_gameOf_41 : decode cX10_gameOf 41 = .ok (.bipush (-9), 2) := by decide +kernel
theorem dX10_gameOf_43 : decode cX10_gameOf 43 = .ok (.goto 11, 3) := by decide +kernel
theorem dX10_gameOf_46 : decode cX10_gameOf 46 = .ok (.aload_n 0, 1) := by decide +kernel
theorem dX10_gameOf_47 : decode cX10_gameOf 47 = .ok (.iload 6, 2) := by decide +kernel
theorem dX10_gameOf_49 : decode cX10_gameOf 49 = .ok (.iload 7, 2) := by decide +kernel
theorem dX10_gameOf_51 : decode cX10_gameOf 51 = .ok (.invokevirtual 457, 3) := by decide +kernel
theorem dX10_gameOf_54 : decode cX10_gameOf 54 = .ok (.istore 8, 2) := by decide +kernel
theorem dX10_gameOf_56 : decode cX10_gameOf 56 = .ok (.iload_n 3, 1) := by decide +kernel
theorem dX10_gameOf_57 : decode cX10_gameOf 57 = .ok (.iload 4, 2) := by decide +kernel
theorem dX10_gameOf_59 : decode cX10_gameOf 59 = .ok (.if_icmp .ne 6, 3) := by decide +kernel
theorem dX10_gameOf_62 : decode cX10_gameOf 62 = .ok (.iinc 8 (-3), 3) := by decide +kernel
theorem dX10_gameOf_65 : decode cX10_gameOf 65 = .ok (.iload_n 3, 1) := by decide +kernel
theorem dX10_gameOf_66 : decode cX10_gameOf 66 = .ok (.iload_n 2, 1) := by decide +kernel
theorem dX10_gameOf_67 : decode cX10_gameOf 67 = .ok (.if_icmp .ne 16, 3) := by decide +kernel
theorem dX10_gameOf_70 : decode cX10_gameOf 70 = .ok (.iload 4, 2) := by decide +kernel
theorem dX10_gameOf_72 : decode cX10_gameOf 72 = .ok (.iload_n 1, 1) := by decide +kernel
theorem dX10_gameOf_73 : decode cX10_gameOf 73 = .ok (.if_icmp .ne 10, 3) := by decide +kernel
theorem dX10_gameOf_76 : decode cX10_gameOf 76 = .ok (.iload 8, 2) := by decide +kernel
theorem dX10_gameOf_78 : decode cX10_gameOf 78 = .ok (.iconst 2, 1) := by decide +kernel
theorem dX10_gameOf_79 : decode cX10_gameOf 79 = .ok (.iadd, 1) := by decide +kernel
theorem dX10_gameOf_80 : decode cX10_gameOf 80 = .ok (.goto 5, 3) := by decide +kernel
theorem dX10_gameOf_83 : decode cX10_gameOf 83 = .ok (.iload 8, 2) := by decide +kernel
theorem dX10_gameOf_85 : decode cX10_gameOf 85 = .ok (.ireturn, 1) := by decide +kernel
theorem dX10_game_0 : decode cX10_game 0 = .ok (.aload_n 0, 1) := by decide +kernel
theorem dX10_game_1 : decode cX10_game 1 = .ok (.iconst 0, 1) := by decide +kernel
theorem dX10_game_2 : decode cX10_game 2 = .ok (.putfield 96, 3) := by decide +kernel
theorem dX10_game_5 : decode cX10_game 5 = .ok (.aload_n 0, 1) := by decide +kernel
theorem dX10_game_6 : decode cX10_game 6 = .ok (.iload_n 1, 1) := by decide +kernel
theorem dX10_game_7 : decode cX10_game 7 = .ok (.iload_n 2, 1) := by decide +kernel
theorem dX10_game_8 : decode cX10_game 8 = .ok (.invokevirtual 393, 3) := by decide +kernel
theorem dX10_game_11 : decode cX10_game 11 = .ok (.ifCond .eq 53, 3) := by decide +kernel
theorem dX10_game_14 : decode cX10_game 14 = .ok (.iload_n 3, 1) := by decide +kernel
theorem dX10_game_15 : decode cX10_game 15 = .ok (.i2l, 1) := by decide +kernel
theorem dX10_game_16 : decode cX10_game 16 = .ok (.lconst 0, 1) := by decide +kernel
theorem dX10_game_17 : decode cX10_game 17 = .ok (.ldc2_w 487, 3) := by decide +kernel
theorem dX10_game_20 : decode cX10_game 20 = .ok (.invokestatic 217, 3) := by decide +kernel
theorem dX10_game_23 : decode cX10_game 23 = .ok (.ifCond .eq 41, 3) := by decide +kernel
theorem dX10_game_26 : decode cX10_game 26 = .ok (.iload 4, 2) := by decide +kernel
theorem dX10_game_28 : decode cX10_game 28 = .ok (.i2l, 1) := by decide +kernel
theorem dX10_game_29 : decode cX10_game 29 = .ok (.lconst 0, 1) := by decide +kernel
theorem dX10_game_30 : decode cX10_game 30 = .ok (.ldc2_w 487, 3) := by decide +kernel
theorem dX10_game_33 : decode cX10_game 33 = .ok (.invokestatic 217, 3) := by decide +kernel
theorem dX10_game_36 : decode cX10_game 36 = .ok (.ifCond .eq 28, 3) := by decide +kernel
theorem dX10_game_39 : decode cX10_game 39 = .ok (.iload 5, 2) := by decide +kernel
theorem dX10_game_41 : decode cX10_game 41 = .ok (.i2l, 1) := by decide +kernel
theorem dX10_game_42 : decode cX10_game 42 = .ok (.lconst 0, 1) := by decide +kernel
theorem dX10_game_43 : decode cX10_game 43 = .ok (.lconst 1, 1) := by decide +kernel
theorem dX10_game_44 : decode cX10_game 44 = .ok (.invokestatic 217, 3) := by decide +kernel
theorem dX10_game_47 : decode cX10_game 47 = .ok (.ifCond .eq 17, 3) := by decide +kernel
theorem dX10_game_50 : decode cX10_game 50 = .ok (.aload_n 0, 1) := by decide +kernel
theorem dX10_game_51 : decode cX10_game 51 = .ok (.iload_n 1, 1) := by decide +kernel
theorem dX10_game_52 : decode cX10_game 52 = .ok (.iload_n 2, 1) := by decide +kernel
theorem dX10_game_53 : decode cX10_game 53 = .ok (.iload_n 3, 1) := by decide +kernel
theorem dX10_game_54 : decode cX10_game 54 = .ok (.iload 4, 2) := by decide +kernel
theorem dX10_game_56 : decode cX10_game 56 = .ok (.iload 5, 2) := by decide +kernel
theorem dX10_game_58 : decode cX10_game 58 = .ok (.invokevirtual 489, 3) := by decide +kernel
theorem dX10_game_61 : decode cX10_game 61 = .ok (.goto 6, 3) := by decide +kernel
theorem dX10_game_64 : decode cX10_game 64 = .ok (.ldc_w 428, 3) := by decide +kernel
theorem dX10_game_67 : decode cX10_game 67 = .ok (.ireturn, 1) := by decide +kernel
theorem dX10_give_0 : decode cX10_give 0 = .ok (.aload_n 0, 1) := by decide +kernel
theorem dX10_give_1 : decode cX10_give 1 = .ok (.iconst 0, 1) := by decide +kernel
theorem dX10_give_2 : decode cX10_give 2 = .ok (.putfield 96, 3) := by decide +kernel
theorem dX10_give_5 : decode cX10_give 5 = .ok (.aload_n 0, 1) := by decide +kernel
theorem dX10_give_6 : decode cX10_give 6 = .ok (.getfield 294, 3) := by decide +kernel
theorem dX10_give_9 : decode cX10_give 9 = .ok (.ifCond .eq 30, 3) := by decide +kernel
theorem dX10_give_12 : decode cX10_give 12 = .ok (.iload_n 1, 1) := by decide +kernel
theorem dX10_give_13 : decode cX10_give 13 = .ok (.i2l, 1) := by decide +kernel
theorem dX10_give_14 : decode cX10_give 14 = .ok (.lconst 1, 1) := by decide +kernel
theorem dX10_give_15 : decode cX10_give 15 = .ok (.ldc2_w 410, 3) := by decide +kernel
theorem dX10_give_18 : decode cX10_give 18 = .ok (.invokestatic 217, 3) := by decide +kernel
theorem dX10_give_21 : decode cX10_give 21 = .ok (.ifCond .eq 18, 3) := by decide +kernel
theorem dX10_give_24 : decode cX10_give 24 = .ok (.aload_n 0, 1) := by decide +kernel
theorem dX10_give_25 : decode cX10_give 25 = .ok (.getfield 61, 3) := by decide +kernel
theorem dX10_give_28 : decode cX10_give 28 = .ok (.bipush 49, 2) := by decide +kernel
theorem dX10_give_30 : decode cX10_give 30 = .ok (.iaload, 1) := by decide +kernel
theorem dX10_give_31 : decode cX10_give 31 = .ok (.iload_n 1, 1) := by decide +kernel
theorem dX10_give_32 : decode cX10_give 32 = .ok (.iadd, 1) := by decide +kernel
theorem dX10_give_33 : decode cX10_give 33 = .ok (.sipush 999, 3) := by decide +kernel
theorem dX10_give_36 : decode cX10_give 36 = .ok (.if_icmp .le 5, 3) := by decide +kernel
theorem dX10_give_39 : decode cX10_give 39 = .ok (.iconst (-1), 1) := by decide +kernel
theorem dX10_give_40 : decode cX10_give 40 = .ok (.ireturn, 1) := by decide +kernel
theorem dX10_give_41 : decode cX10_give 41 = .ok (.aload_n 0, 1) := by decide +kernel
theorem dX10_give_42 : decode cX10_give 42 = .ok (.invokevirtual 384, 3) := by decide +kernel
theorem dX10_give_45 : decode cX10_give 45 = .ok (.aload_n 0, 1) := by decide +kernel
theorem dX10_give_46 : decode cX10_give 46 = .ok (.getfield 61, 3) := by decide +kernel
theorem dX10_give_49 : decode cX10_give 49 = .ok (.bipush 49, 2) := by decide +kernel
theorem dX10_give_51 : decode cX10_give 51 = .ok (.dup2, 1) := by decide +kernel
theorem dX10_give_52 : decode cX10_give 52 = .ok (.iaload, 1) := by decide +kernel
theorem dX10_give_53 : decode cX10_give 53 = .ok (.iload_n 1, 1) := by decide +kernel
theorem dX10_give_54 : decode cX10_give 54 = .ok (.iadd, 1) := by decide +kernel
theorem dX10_give_55 : decode cX10_give 55 = .ok (.iastore, 1) := by decide +kernel
theorem dX10_give_56 : decode cX10_give 56 = .ok (.aload_n 0, 1) := by decide +kernel
theorem dX10_give_57 : decode cX10_give 57 = .ok (.getfield 61, 3) := by decide +kernel
theorem dX10_give_60 : decode cX10_give 60 = .ok (.bipush 49, 2) := by decide +kernel
theorem dX10_give_62 : decode cX10_give 62 = .ok (.iaload, 1) := by decide +kernel
theorem dX10_give_63 : decode cX10_give 63 = .ok (.ireturn, 1) := by decide +kernel
theorem dX10_given_0 : decode cX10_given 0 = .ok (.aload_n 0, 1) := by decide +kernel
theorem dX10_given_1 : decode cX10_given 1 = .ok (.iconst 0, 1) := by decide +kernel
theorem dX10_given_2 : decode cX10_given 2 = .ok (.putfield 96, 3) := by decide +kernel
theorem dX10_given_5 : decode cX10_given 5 = .ok (.aload_n 0, 1) := by decide +kernel
theorem dX10_given_6 : decode cX10_given 6 = .ok (.iload_n 1, 1) := by decide +kernel
theorem dX10_given_7 : decode cX10_given 7 = .ok (.invokevirtual 369, 3) := by decide +kernel
theorem dX10_given_10 : decode cX10_given 10 = .ok (.ifCond .eq 24, 3) := by decide +kernel
theorem dX10_given_13 : decode cX10_given 13 = .ok (.iload_n 2, 1) := by decide +kernel
theorem dX10_given_14 : decode cX10_given 14 = .ok (.i2l, 1) := by decide +kernel
theorem dX10_given_15 : decode cX10_given 15 = .ok (.lconst 1, 1) := by decide +kernel
theorem dX10_given_16 : decode cX10_given 16 = .ok (.ldc2_w 420, 3) := by decide +kernel
theorem dX10_given_19 : decode cX10_given 19 = .ok (.invokestatic 217, 3) := by decide +kernel
theorem dX10_given_22 : decode cX10_given 22 = .ok (.ifCond .eq 12, 3) := by decide +kernel
theorem dX10_given_25 : decode cX10_given 25 = .ok (.aload_n 0, 1) := by decide +kernel
theorem dX10_given_26 : decode cX10_given 26 = .ok (.getfield 300, 3) := by decide +kernel
theorem dX10_given_29 : decode cX10_given 29 = .ok (.bipush 10, 2) := by decide +kernel
theorem dX10_given_31 : decode cX10_given 31 = .ok (.if_icmp .ne 5, 3) := by decide +kernel
theorem dX10_given_34 : decode cX10_given 34 = .ok (.iconst (-1), 1) := by decide +kernel
theorem dX10_given_35 : decode cX10_given 35 = .ok (.ireturn, 1) := by decide +kernel
theorem dX10_given_36 : decode cX10_given 36 = .ok (.aload_n 0, 1) := by decide +kernel
theorem dX10_given_37 : decode cX10_given 37 = .ok (.getfield 87, 3) := by decide +kernel
theorem dX10_given_40 : decode cX10_given 40 = .ok (.iconst 3, 1) := by decide +kernel
theorem dX10_given_41 : decode cX10_given 41 = .ok (.aload_n 0, 1) := by decide +kernel
theorem dX10_given_42 : decode cX10_given 42 = .ok (.getfield 300, 3) := by decide +kernel
theorem dX10_given_45 : decode cX10_given 45 = .ok (.imul, 1) := by decide +kernel
theorem dX10_given_46 : decode cX10_given 46 = .ok (.iload_n 1, 1) := by decide +kernel
theorem dX10_given_47 : decode cX10_given 47 = .ok (.iastore, 1) := by decide +kernel
theorem dX10_given_48 : decode cX10_given 48 = .ok (.aload_n 0, 1) := by decide +kernel
theorem dX10_given_49 : decode cX10_given 49 = .ok (.getfield 87, 3) := by decide +kernel
theorem dX10_given_52 : decode cX10_given 52 = .ok (.iconst 3, 1) := by decide +kernel
theorem dX10_given_53 : decode cX10_given 53 = .ok (.aload_n 0, 1) := by decide +kernel
theorem dX10_given_54 : decode cX10_given 54 = .ok (.getfield 300, 3) := by decide +kernel
theorem dX10_given_57 : decode cX10_given 57 = .ok (.imul, 1) := by decide +kernel
theorem dX10_given_58 : decode cX10_given 58 = .ok (.iconst 1, 1) := by decide +kernel
theorem dX10_given_59 : decode cX10_given 59 = .ok (.iadd, 1) := by decide +kernel
theorem dX10_given_60 : decode cX10_given 60 = .ok (.iload_n 2, 1) := by decide +kernel
theorem dX10_given_61 : decode cX10_given 61 = .ok (.iastore, 1) := by decide +kernel
theorem dX10_given_62 : decode cX10_given 62 = .ok (.aload_n 0, 1) := by decide +kernel
theorem dX10_given_63 : decode cX10_given 63 = .ok (.getfield 87, 3) := by decide +kernel
theorem dX10_given_66 : decode cX10_given 66 = .ok (.iconst 3, 1) := by decide +kernel
theorem dX10_given_67 : decode cX10_given 67 = .ok (.aload_n 0, 1) := by decide +kernel
theorem dX10_given_68 : decode cX10_given 68 = .ok (.getfield 300, 3) := by decide +kernel
theorem dX10_given_71 : decode cX10_given 71 = .ok (.imul, 1) := by decide +kernel
theorem dX10_given_72 : decode cX10_given 72 = .ok (.iconst 2, 1) := by decide +kernel
theorem dX10_given_73 : decode cX10_given 73 = .ok (.iadd, 1) := by decide +kernel
theorem dX10_given_74 : decode cX10_given 74 = .ok (.iload_n 3, 1) := by decide +kernel
theorem dX10_given_75 : decode cX10_given 75 = .ok (.ifCond .eq 7, 3) := by decide +kernel
theorem dX10_given_78 : decode cX10_given 78 = .ok (.iconst 1, 1) := by decide +kernel
theorem dX10_given_79 : decode cX10_given 79 = .ok (.goto 4, 3) := by decide +kernel
theorem dX10_given_82 : decode cX10_given 82 = .ok (.iconst 0, 1) := by decide +kernel
theorem dX10_given_83 : decode cX10_given 83 = .ok (.iastore, 1) := by decide +kernel
theorem dX10_given_84 : decode cX10_given 84 = .ok (.aload_n 0, 1) := by decide +kernel
theorem dX10_given_85 : decode cX10_given 85 = .ok (.dup, 1) := by decide +kernel
theorem dX10_given_86 : decode cX10_given 86 = .ok (.getfield 300, 3) := by decide +kernel
theorem dX10_given_89 : decode cX10_given 89 = .ok (.iconst 1, 1) := by decide +kernel
theorem dX10_given_90 : decode cX10_given 90 = .ok (.iadd, 1) := by decide +kernel
theorem dX10_given_91 : decode cX10_given 91 = .ok (.putfield 300, 3) := by decide +kernel
theorem dX10_given_94 : decode cX10_given 94 = .ok (.aload_n 0, 1) := by decide +kernel
theorem dX10_given_95 : decode cX10_given 95 = .ok (.getfield 300, 3) := by decide +kernel
theorem dX10_given_98 : decode cX10_given 98 = .ok (.ireturn, 1) := by decide +kernel
