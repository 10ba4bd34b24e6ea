theorem dX10_remember_0 : decode cX10_remember 0 = .ok (.aload_n 0, 1) := by decide +kernel
theorem dX10_remember_1 : decode cX10_remember 1 = .ok (.getfield 303, 3) := by decide +kernel
theorem dX10_remember_4 : decode cX10_remember 4 = .ok (.bipush 40, 2) := by decide +kernel
theorem dX10_remember_6 : decode cX10_remember 6 = .ok (.if_icmp .ne 44, 3) := by decide +kernel
theorem dX10_remember_9 : decode cX10_remember 9 = .ok (.iconst 0, 1) := by decide +kernel
theorem dX10_remember_10 : decode cX10_remember 10 = .ok (.istore_n 1, 1) := by decide +kernel
theorem dX10_remember_11 : decode cX10_remember 11 = .ok (.iload_n 1, 1) := by decide +kernel
theorem dX10_remember_12 : decode cX10_remember 12 = .ok (.sipush 9087, 3) := by decide +kernel
theorem dX10_remember_15 : decode cX10_remember 15 = .ok (.if_icmp .ge 25, 3) := by decide +kernel
theorem dX10_remember_18 : decode cX10_remember 18 = .ok (.aload_n 0, 1) := by decide +kernel
theorem dX10_remember_19 : decode cX10_remember 19 = .ok (.getfield 84, 3) := by decide +kernel
theorem dX10_remember_22 : decode cX10_remember 22 = .ok (.iload_n 1, 1) := by decide +kernel
theorem dX10_remember_23 : decode cX10_remember 23 = .ok (.aload_n 0, 1) := by decide +kernel
theorem dX10_remember_24 : decode cX10_remember 24 = .ok (.getfield 84, 3) := by decide +kernel
theorem dX10_remember_27 : decode cX10_remember 27 = .ok (.iload_n 1, 1) := by decide +kernel
theorem dX10_remember_28 : decode cX10_remember 28 = .ok (.sipush 233, 3) := by decide +kernel
theorem dX10_remember_31 : decode cX10_remember 31 = .ok (.iadd, 1) := by decide +kernel
theorem dX10_remember_32 : decode cX10_remember 32 = .ok (.iaload, 1) := by decide +kernel
theorem dX10_remember_33 : decode cX10_remember 33 = .ok (.iastore, 1) := by decide +kernel
theorem dX10_remember_34 : decode cX10_remember 34 = .ok (.iinc 1 1, 3) := by decide +kernel
theorem dX10_remember_37 : decode cX10_remember 37 = .ok (.goto (-26), 3) := by decide +kernel
theorem dX10_remember_40 : decode cX10_remember 40 = .ok (.aload_n 0, 1) := by decide +kernel
theorem dX10_remember_41 : decode cX10_remember 41 = .ok (.dup, 1) := by decide +kernel
theorem dX10_remember_42 : decode cX10_remember 42 = .ok (.getfield 303, 3) := by decide +kernel
theorem dX10_remember_45 : decode cX10_remember 45 = .ok (.iconst 1, 1) := by decide +kernel
theorem dX10_remember_46 : decode cX10_remember 46 = .ok (.isub, 1) := by decide +kernel
theorem dX10_remember_47 : decode cX10_remember 47 = .ok (.putfield 303, 3) := by decide +kernel
theorem dX10_remember_50 : decode cX10_remember 50 = .ok (.iconst 0, 1) := by decide +kernel
theorem dX10_remember_51 : decode cX10_remember 51 = .ok (.istore_n 1, 1) := by decide +kernel
theorem dX10_remember_52 : decode cX10_remember 52 = .ok (.iload_n 1, 1) := by decide +kernel
theorem dX10_remember_53 : decode cX10_remember 53 = .ok (.sipush 233, 3) := by decide +kernel
theorem dX10_remember_56 : decode cX10_remember 56 = .ok (.if_icmp .ge 30, 3) := by decide +kernel
theorem dX10_remember_59 : decode cX10_remember 59 = .ok (.aload_n 0, 1) := by decide +kernel
theorem dX10_remember_60 : decode cX10_remember 60 = .ok (.getfield 84, 3) := by decide +kernel
theorem dX10_remember_63 : decode cX10_remember 63 = .ok (.sipush 233, 3) := by decide +kernel
theorem dX10_remember_66 : decode cX10_remember 66 = .ok (.aload_n 0, 1) := by decide +kernel
theorem dX10_remember_67 : decode cX10_remember 67 = .ok (.getfield 303, 3) := by decide +kernel
theorem dX10_remember_70 : decode cX10_remember 70 = .ok (.imul, 1) := by decide +kernel
theorem dX10_remember_71 : decode cX10_remember 71 = .ok (.iload_n 1, 1) := by decide +kernel
theorem dX10_remember_72 : decode cX10_remember 72 = .ok (.iadd, 1) := by decide +kernel
theorem dX10_remember_73 : decode cX10_remember 73 = .ok (.aload_n 0, 1) := by decide +kernel
theorem dX10_remember_74 : decode cX10_remember 74 = .ok (.getfield 61, 3) := by decide +kernel
theorem dX10_remember_77 : decode cX10_remember 77 = .ok (.iload_n 1, 1) := by decide +kernel
theorem dX10_remember_78 : decode cX10_remember 78 = .ok (.iaload, 1) := by decide +kernel
theorem dX10_remember_79 : decode cX10_remember 79 = .ok (.iastore, 1) := by decide +kernel
theorem dX10_remember_80 : decode cX10_remember 80 = .ok (.iinc 1 1, 3) := by decide +kernel
theorem dX10_remember_83 : decode cX10_remember 83 = .ok (.goto (-31), 3) := by decide +kernel
theorem dX10_remember_86 : decode cX10_remember 86 = .ok (.aload_n 0, 1) := by decide +kernel
theorem dX10_remember_87 : decode cX10_remember 87 = .ok (.dup, 1) := by decide +kernel
theorem dX10_remember_88 : decode cX10_remember 88 = .ok (.getfield 303, 3) := by decide +kernel
theorem dX10_remember_91 : decode cX10_remember 91 = .ok (.iconst 1, 1) := by decide +kernel
theorem dX10_remember_92 : decode cX10_remember 92 = .ok (.iadd, 1) := by decide +kernel
theorem dX10_remember_93 : decode cX10_remember 93 = .ok (.putfield 303, 3) := by decide +kernel
theorem dX10_remember_96 : decode cX10_remember 96 = .ok (.return_, 1) := by decide +kernel
theorem dX10_appeal_0 : decode cX10_appeal 0 = .ok (.aload_n 0, 1) := by decide +kernel
theorem dX10_appeal_1 : decode cX10_appeal 1 = .ok (.iconst 0, 1) := by decide +kernel
theorem dX10_appeal_2 : decode cX10_appeal 2 = .ok (.putfield 96, 3) := by decide +kernel
theorem dX10_appeal_5 : decode cX10_appeal 5 = .ok (.aload_n 0, 1) := by decide +kernel
theorem dX10_appeal_6 : decode cX10_appeal 6 = .ok (.aload_n 0, 1) := by decide +kernel
theorem dX10_appeal_7 : decode cX10_appeal 7 = .ok (.getfield 61, 3) := by decide +kernel
theorem dX10_appeal_10 : decode cX10_appeal 10 = .ok (.iload_n 1, 1) := by decide +kernel
theorem dX10_appeal_11 : decode cX10_appeal 11 = .ok (.iload_n 2, 1) := by decide +kernel
theorem dX10_appeal_12 : decode cX10_appeal 12 = .ok (.invokevirtual 396, 3) := by decide +kernel
theorem dX10_appeal_15 : decode cX10_appeal 15 = .ok (.ifCond .ne 5, 3) := by decide +kernel
theorem dX10_appeal_18 : decode cX10_appeal 18 = .ok (.iconst (-1), 1) := by decide +kernel
theorem dX10_appeal_19 : decode cX10_appeal 19 = .ok (.ireturn, 1) := by decide +kernel
theorem dX10_appeal_20 : decode cX10_appeal 20 = .ok (.aload_n 0, 1) := by decide +kernel
theorem dX10_appeal_21 : decode cX10_appeal 21 = .ok (.invokevirtual 384, 3) := by decide +kernel
theorem dX10_appeal_24 : decode cX10_appeal 24 = .ok (.aload_n 0, 1) := by decide +kernel
theorem dX10_appeal_25 : decode cX10_appeal 25 = .ok (.getfield 61, 3) := by decide +kernel
theorem dX10_appeal_28 : decode cX10_appeal 28 = .ok (.iload_n 1, 1) := by decide +kernel
theorem dX10_appeal_29 : decode cX10_appeal 29 = .ok (.iload_n 2, 1) := by decide +kernel
theorem dX10_appeal_30 : decode cX10_appeal 30 = .ok (.invokestatic 400, 3) := by decide +kernel
theorem dX10_appeal_33 : decode cX10_appeal 33 = .ok (.aload_n 0, 1) := by decide +kernel
theorem dX10_appeal_34 : decode cX10_appeal 34 = .ok (.getfield 61, 3) := by decide +kernel
theorem dX10_appeal_37 : decode cX10_appeal 37 = .ok (.iload_n 1, 1) := by decide +kernel
theorem dX10_appeal_38 : decode cX10_appeal 38 = .ok (.iload_n 2, 1) := by decide +kernel
theorem dX10_appeal_39 : decode cX10_appeal 39 = .ok (.invokestatic 312, 3) := by decide +kernel
theorem dX10_appeal_42 : decode cX10_appeal 42 = .ok (.ireturn, 1) := by decide +kernel
theorem dX10_look_0 : decode cX10_look 0 = .ok (.aload_n 0, 1) := by decide +kernel
theorem dX10_look_1 : decode cX10_look 1 = .ok (.getfield 119, 3) := by decide +kernel
theorem dX10_look_4 : decode cX10_look 4 = .ok (.aload_n 0, 1) := by decide +kernel
theorem dX10_look_5 : decode cX10_look 5 = .ok (.getfield 122, 3) := by decide +kernel
theorem dX10_look_8 : decode cX10_look 8 = .ok (.if_icmp .ge 35, 3) := by decide +kernel
theorem dX10_look_11 : decode cX10_look 11 = .ok (.aload_n 0, 1) := by decide +kernel
theorem dX10_look_12 : decode cX10_look 12 = .ok (.getfield 23, 3) := by decide +kernel
theorem dX10_look_15 : decode cX10_look 15 = .ok (.aload_n 0, 1) := by decide +kernel
theorem dX10_look_16 : decode cX10_look 16 = .ok (.getfield 125, 3) := by decide +kernel
theorem dX10_look_19 : decode cX10_look 19 = .ok (.aload_n 0, 1) := by decide +kernel
theorem dX10_look_20 : decode cX10_look 20 = .ok (.getfield 119, 3) := by decide +kernel
theorem dX10_look_23 : decode cX10_look 23 = .ok (.iadd, 1) := by decide +kernel
theorem dX10_look_24 : decode cX10_look 24 = .ok (.baload, 1) := by decide +kernel
theorem dX10_look_25 : decode cX10_look 25 = .ok (.bipush 32, 2) := by decide +kernel
theorem dX10_look_27 : decode cX10_look 27 = .ok (.if_icmp .ne 16, 3) := by decide +kernel
theorem dX10_look_30 : decode cX10_look 30 = .ok (.aload_n 0, 1) := by decide +kernel
theorem dX10_look_31 : decode cX10_look 31 = .ok (.dup, 1) := by decide +kernel
theorem dX10_look_32 : decode cX10_look 32 = .ok (.getfield 119, 3) := by decide +kernel
theorem dX10_look_35 : decode cX10_look 35 = .ok (.iconst 1, 1) := by decide +kernel
theorem dX10_look_36 : decode cX10_look 36 = .ok (.iadd, 1) := by decide +kernel
theorem dX10_look_37 : decode cX10_look 37 = .ok (.putfield 119, 3) := by decide +kernel
theorem dX10_look_40 : decode cX10_look 40 = .ok (.goto (-40), 3) := by decide +kernel
theorem dX10_look_43 : decode cX10_look 43 = .ok (.aload_n 0, 1) := by decide +kernel
theorem dX10_look_44 : decode cX10_look 44 = .ok (.getfield 119, 3) := by decide +kernel
theorem dX10_look_47 : decode cX10_look 47 = .ok (.aload_n 0, 1) := by decide +kernel
theorem dX10_look_48 : decode cX10_look 48 = .ok (.getfield 122, 3) := by decide +kernel
theorem dX10_look_51 : decode cX10_look 51 = .ok (.if_icmp .ge 24, 3) := by decide +kernel
theorem dX10_look_54 : decode cX10_look 54 = .ok (.aload_n 0, 1) := by decide +kernel
theorem dX10_look_55 : decode cX10_look 55 = .ok (.getfield 23, 3) := by decide +kernel
theorem dX10_look_58 : decode cX10_look 58 = .ok (.aload_n 0, 1) := by decide +kernel
theorem dX10_look_59 : decode cX10_look 59 = .ok (.getfield 125, 3) := by decide +kernel
theorem dX10_look_62 : decode cX10_look 62 = .ok (.aload_n 0, 1) := by decide +kernel
theorem dX10_look_63 : decode cX10_look 63 = .ok (.getfield 119, 3) := by decide +kernel
theorem dX10_look_66 : decode cX10_look 66 = .ok (.iadd, 1) := by decide +kernel
theorem dX10_look_67 : decode cX10_look 67 = .ok (.baload, 1) := by decide +kernel
theorem dX10_look_68 : decode cX10_look 68 = .ok (.sipush 255, 3) := by decide +kernel
theorem dX10_look_71 : decode cX10_look 71 = .ok (.iand, 1) := by decide +kernel
theorem dX10_look_72 : decode cX10_look 72 = .ok (.goto 4, 3) := by decide +kernel
theorem dX10_look_75 : decode cX10_look 75 = .ok (.iconst (-1), 1) := by decide +kernel
theorem dX10_look_76 : decode cX10_look 76 = .ok (.ireturn, 1) := by decide +kernel
theorem dX10_fails_0 : decode cX10_fails 0 = .ok (.aload_n 0, 1) := by decide +kernel
theorem dX10_fails_1 : decode cX10_fails 1 = .ok (.getfield 128, 3) := by decide +kernel
theorem dX10_fails_4 : decode cX10_fails 4 = .ok (.iconst (-1), 1) := by decide +kernel
theorem dX10_fails_5 : decode cX10_fails 5 = .ok (.if_icmp .ne 11, 3) := by decide +kernel
theorem dX10_fails_8 : decode cX10_fails 8 = .ok (.aload_n 0, 1) := by decide +kernel
theorem dX10_fails_9 : decode cX10_fails 9 = .ok (.aload_n 0, 1) := by decide +kernel
theorem dX10_fails_10 : decode cX10_fails 10 = .ok (.getfield 119, 3) := by decide +kernel
theorem dX10_fails_13 : decode cX10_fails 13 = .ok (.putfield 128, 3) := by decide +kernel
theorem dX10_fails_16 : decode cX10_fails 16 = .ok (.iconst 0, 1) := by decide +kernel
theorem dX10_fails_17 : decode cX10_fails 17 = .ok (.ireturn, 1) := by decide +kernel
theorem dX10_isSign_0 : decode cX10_isSign 0 = .ok (.iload_n 0, 1) := by decide +kernel
theorem dX10_isSign_1 : decode cX10_isSign 1 = .ok (.bipush 61, 2) := by decide +kernel
theorem dX10_isSign_3 : decode cX10_isSign 3 = .ok (.if_icmp .eq 15, 3) := by decide +kernel
theorem dX10_isSign_6 : decode cX10_isSign 6 = .ok (.iload_n 0, 1) := by decide +kernel
theorem dX10_isSign_7 : decode cX10_isSign 7 = .ok (.bipush 60, 2) := by decide +kernel
theorem dX10_isSign_9 : decode cX10_isSign 9 = .ok (.if_icmp .eq 9, 3) := by decide +kernel
theorem dX10_isSign_12 : decode cX10_isSign 12 = .ok (.iload_n 0, 1) := by decide +kernel
theorem dX10_isSign_13 : decode cX10_isSign 13 = .ok (.bipush 62, 2) := by decide +kernel
theorem dX10_isSign_15 : decode cX10_isSign 15 = .ok (.if_icmp .ne 7, 3) := by decide +kernel
theorem dX10_isSign_18 : decode cX10_isSign 18 = .ok (.iconst 1, 1) := by decide +kernel
theorem dX10_isSign_19 : decode cX10_isSign 19 = .ok (.goto 4, 3) := by decide +kernel
theorem dX10_isSign_22 : decode cX10_isSign 22 = .ok (.iconst 0, 1) := by decide +kernel
theorem dX10_isSign_23 : decode cX10_isSign 23 = .ok (.ireturn, 1) := by decide +kernel
theorem dX10_goesIn_0 : decode cX10_goesIn 0 = .ok (.aload_n 0, 1) := by decide +kernel
theorem dX10_goesIn_1 : decode cX10_goesIn 1 = .ok (.getfield 131, 3) := by decide +kernel
theorem dX10_goesIn_4 : decode cX10_goesIn 4 = .ok (.bipush 6, 2) := by decide +kernel
theorem dX10_goesIn_6 : decode cX10_goesIn 6 = .ok (.if_icmp .ne 8, 3) := by decide +kernel
theorem dX10_goesIn_9 : decode cX10_goesIn 9 = .ok (.aload_n 0, 1) := by decide +kernel
theorem dX10_goesIn_10 : decode cX10_goesIn 10 = .ok (.invokevirtual 134, 3) := by decide +kernel
theorem dX10_goesIn_13 : decode cX10_goesIn 13 = .ok (.ireturn, 1) := by decide +kernel
theorem dX10_goesIn_14 : decode cX10_goesIn 14 = .ok (.aload_n 0, 1) := by decide +kernel
theorem dX10_goesIn_15 : decode cX10_goesIn 15 = .ok (.dup, 1) := by decide +kernel
theorem dX10_goesIn_16 : decode cX10_goesIn 16 = .ok (.getfield 131, 3) := by decide +kernel
theorem dX10_goesIn_19 : decode cX10_goesIn 19 = .ok (.iconst 1, 1) := by decide +kernel
theorem dX10_goesIn_20 : decode cX10_goesIn 20 = .ok (.iadd, 1) := by decide +kernel
theorem dX10_goesIn_21 : decode cX10_goesIn 21 = .ok (.putfield 131, 3) := by decide +kernel
theorem dX10_goesIn_24 : decode cX10_goesIn 24 = .ok (.aload_n 0, 1) := by decide +kernel
theorem dX10_goesIn_25 : decode cX10_goesIn 25 = .ok (.dup, 1) := by decide +kernel
theorem dX10_goesIn_26 : decode cX10_goesIn 26 = .ok (.getfield 119, 3) := by decide +kernel
theorem dX10_goesIn_29 : decode cX10_goesIn 29 = .ok (.iconst 1, 1) := by decide +kernel
theorem dX10_goesIn_30 : decode cX10_goesIn 30 = .ok (.iadd, 1) := by decide +kernel
theorem dX10_goesIn_31 : decode cX10_goesIn 31 = .ok (.putfield 119, 3) := by decide +kernel
theorem dX10_goesIn_34 : decode cX10_goesIn 34 = .ok (.iconst 1, 1) := by decide +kernel
theorem dX10_goesIn_35 : decode cX10_goesIn 35 = .ok (.ireturn, 1) := by decide +kernel
theorem dX10_isAmong_0 : decode cX10_isAmong 0 = .ok (.iconst 0, 1) := by decide +kernel
theorem dX10_isAmong_1 : decode cX10_isAmong 1 = .ok (.istore_n 2, 1) := by decide +kernel
theorem dX10_isAmong_2 : decode cX10_isAmong 2 = .ok (.iload_n 2, 1) := by decide +kernel
theorem dX10_isAmong_3 : decode cX10_isAmong 3 = .ok (.aload_n 0, 1) := by decide +kernel
theorem dX10_isAmong_4 : decode cX10_isAmong 4 = .ok (.invokevirtual 99, 3) := by decide +kernel
theorem dX10_isAmong_7 : decode cX10_isAmong 7 = .ok (.if_icmp .ge 20, 3) := by decide +kernel
theorem dX10_isAmong_10 : decode cX10_isAmong 10 = .ok (.aload_n 0, 1) := by decide +kernel
theorem dX10_isAmong_11 : decode cX10_isAmong 11 = .ok (.iload_n 2, 1) := by decide +kernel
theorem dX10_isAmong_12 : decode cX10_isAmong 12 = .ok (.invokevirtual 105, 3) := by decide +kernel
theorem dX10_isAmong_15 : decode cX10_isAmong 15 = .ok (.iload_n 1, 1) := by decide +kernel
theorem dX10_isAmong_16 : decode cX10_isAmong 16 = .ok (.if_icmp .ne 5, 3) := by decide +kernel
theorem dX10_isAmong_19 : decode cX10_isAmong 19 = .ok (.iconst 1, 1) := by decide +kernel
theorem dX10_isAmong_20 : decode cX10_isAmong 20 = .ok (.ireturn, 1) := by decide +kernel
theorem dX10_isAmong_21 : decode cX10_isAmong 21 = .ok (.iinc 2 1, 3) := by decide +kernel
theorem dX10_isAmong_24 : decode cX10_isAmong 24 = .ok (.goto (-22), 3) := by decide +kernel
theorem dX10_isAmong_27 : decode cX10_isAmong 27 = .ok (.iconst 0, 1) := by decide +kernel
theorem dX10_isAmong_28 : decode cX10_isAmong 28 = .ok (.ireturn, 1) := by decide +kernel
theorem dX10_isDigit_0 : decode cX10_isDigit 0 = .ok (.aload_n 0, 1) := by decide +kernel
theorem dX10_isDigit_1 : decode cX10_isDigit 1 = .ok (.getfield 119, 3) := by decide +kernel
theorem dX10_isDigit_4 : decode cX10_isDigit 4 = .ok (.aload_n 0, 1) := by decide +kernel
theorem dX10_isDigit_5 : decode cX10_isDigit 5 = .ok (.getfield 122, 3) := by decide +kernel
theorem dX10_isDigit_8 : decode cX10_isDigit 8 = .ok (.if_icmp .ge 45, 3) := by decide +kernel
theorem dX10_isDigit_11 : decode cX10_isDigit 11 = .ok (.aload_n 0, 1) := by decide +kernel
theorem dX10_isDigit_12 : decode cX10_isDigit 12 = .ok (.getfield 23, 3) := by decide +kernel
theorem dX10_isDigit_15 : decode cX10_isDigit 15 = .ok (.aload_n 0, 1) := by decide +kernel
theorem dX10_isDigit_16 : decode cX10_isDigit 16 = .ok (.getfield 125, 3) := by decide +kernel
theorem dX10_isDigit_19 : decode cX10_isDigit 19 = .ok (.aload_n 0, 1) := by decide +kernel
theorem dX10_isDigit_20 : decode cX10_isDigit 20 = .ok (.getfield 119, 3) := by decide +kernel
theorem dX10_isDigit_23 : decode cX10_isDigit 23 = .ok (.iadd, 1) := by decide +kernel
theorem dX10_isDigit_24 : decode cX10_isDigit 24 = .ok (.baload, 1) := by decide +kernel
theorem dX10_isDigit_25 : decode cX10_isDigit 25 = .ok (.bipush 48, 2) := by decide +kernel
theorem dX10_isDigit_27 : decode cX10_isDigit 27 = .ok (.if_icmp .lt 26, 3) := by decide +kernel
theorem dX10_isDigit_30 : decode cX10_isDigit 30 = .ok (.aload_n 0, 1) := by decide +kernel
theorem dX10_isDigit_31 : decode cX10_isDigit 31 = .ok (.getfield 23, 3) := by decide +kernel
theorem dX10_isDigit_34 : decode cX10_isDigit 34 = .ok (.aload_n 0, 1) := by decide +kernel
theorem dX10_isDigit_35 : decode cX10_isDigit 35 = .ok (.getfield 125, 3) := by decide +kernel
theorem dX10_isDigit_38 : decode cX10_isDigit 38 = .ok (.aload_n 0, 1) := by decide +kernel
theorem dX10_isDigit_39 : decode cX10_isDigit 39 = .ok (.getfield 119, 3) := by decide +kernel
theorem dX10_isDigit_42 : decode cX10_isDigit 42 = .ok (.iadd, 1) := by decide +kernel
theorem dX10_isDigit_43 : decode cX10_isDigit 43 = .ok (.baload, 1) := by decide +kernel
theorem dX10_isDigit_44 : decode cX10_isDigit 44 = .ok (.bipush 57, 2) := by decide +kernel
theorem dX10_isDigit_46 : decode cX10_isDigit 46 = .ok (.if_icmp .gt 7, 3) := by decide +kernel
theorem dX10_isDigit_49 : decode cX10_isDigit 49 = .ok (.iconst 1, 1) := by decide +kernel
theorem dX10_isDigit_50 : decode cX10_isDigit 50 = .ok (.goto 4, 3) := by decide +kernel
theorem dX10_isDigit_53 : decode cX10_isDigit 53 = .ok (.iconst 0, 1) := by decide +kernel
theorem dX10_isDigit_54 : decode cX10_isDigit 54 = .ok (.ireturn, 1) := by decide +kernel
theorem dX10_takes_0 : decode cX10_takes 0 = .ok (.aload_n 0, 1) := by decide +kernel
theorem dX10_takes_1 : decode cX10_takes 1 = .ok (.getfield 128, 3) := by decide +kernel
theorem dX10_takes_4 : decode cX10_takes 4 = .ok (.iconst (-1), 1) := by decide +kernel
theorem dX10_takes_5 : decode cX10_takes 5 = .ok (.if_icmp .ne 11, 3) := by decide +kernel
theorem dX10_takes_8 : decode cX10_takes 8 = .ok (.aload_n 0, 1) := by decide +kernel
theorem dX10_takes_9 : decode cX10_takes 9 = .ok (.invokevirtual 138, 3) := by decide +kernel
theorem dX10_takes_12 : decode cX10_takes 12 = .ok (.iload_n 1, 1) := by decide +kernel
theorem dX10_takes_13 : decode cX10_takes 13 = .ok (.if_icmp .eq 8, 3) := by decide +kernel
theorem dX10_takes_16 : decode cX10_takes 16 = .ok (.aload_n 0, 1) := by decide +kernel
theorem dX10_takes_17 : decode cX10_takes 17 = .ok (.invokevirtual 134, 3) := by decide +kernel
theorem dX10_takes_20 : decode cX10_takes 20 = .ok (.ireturn, 1) := by decide +kernel
theorem dX10_takes_21 : decode cX10_takes 21 = .ok (.aload_n 0, 1) := by decide +kernel
theorem dX10_takes_22 : decode cX10_takes 22 = .ok (.dup, 1) := by decide +kernel
theorem dX10_takes_23 : decode cX10_takes 23 = .ok (.getfield 119, 3) := by decide +kernel
theorem dX10_takes_26 : decode cX10_takes 26 = .ok (.iconst 1, 1) := by decide +kernel
theorem dX10_takes_27 : decode cX10_takes 27 = .ok (.iadd, 1) := by decide +kernel
theorem dX10_takes_28 : decode cX10_takes 28 = .ok (.putfield 119, 3) := by decide +kernel
theorem dX10_takes_31 : decode cX10_takes 31 = .ok (.iconst 1, 1) := by decide +kernel
theorem dX10_takes_32 : decode cX10_takes 32 = .ok (.ireturn, 1) := by decide +kernel
theorem dX10_within_0 : decode cX10_within 0 = .ok (.ldc2_w 141, 3) := by decide +kernel
theorem dX10_within_3 : decode cX10_within 3 = .ok (.ldc2_w 143, 3) := by decide +kernel
theorem dX10_within_6 : decode cX10_within 6 = .ok (.lload_n 0, 1) := by decide +kernel
theorem dX10_within_7 : decode cX10_within 7 = .ok (.invokestatic 145, 3) := by decide +kernel
theorem dX10_within_10 : decode cX10_within 10 = .ok (.invokestatic 151, 3) := by decide +kernel
theorem dX10_within_13 : decode cX10_within 13 = .ok (.l2i, 1) := by decide +kernel
theorem dX10_within_14 : decode cX10_within 14 = .ok (.ireturn, 1) := by decide +kernel
theorem dX10_atom_0 : decode cX10_atom 0 = .ok (.aload_n 0, 1) := by decide +kernel
theorem dX10_atom_1 : decode cX10_atom 1 = .ok (.invokevirtual 138, 3) := by decide +kernel
theorem dX10_atom_4 : decode cX10_atom 4 = .ok (.istore_n 1, 1) := by decide +kernel
theorem dX10_atom_5 : decode cX10_atom 5 = .ok (.ldc 32, 2) := by decide +kernel
theorem dX10_atom_7 : decode cX10_atom 7 = .ok (.iload_n 1, 1) := by decide +kernel
theorem dX10_atom_8 : decode cX10_atom 8 = .ok (.invokestatic 154, 3) := by decide +kernel
theorem dX10_atom_11 : decode cX10_atom 11 = .ok (.ifCond .eq 20, 3) := by decide +kernel
theorem dX10_atom_14 : decode cX10_atom 14 = .ok (.aload_n 0, 1) := by decide +kernel
theorem dX10_atom_15 : decode cX10_atom 15 = .ok (.dup, 1) := by decide +kernel
theorem dX10_atom_16 : decode cX10_atom 16 = .ok (.getfield 119, 3) := by decide +kernel
theorem dX10_atom_19 : decode cX10_atom 19 = .ok (.iconst 1, 1) := by decide +kernel
theorem dX10_atom_20 : decode cX10_atom 20 = .ok (.iadd, 1) := by decide +kernel
theorem dX10_atom_21 : decode cX10_atom 21 = .ok (.putfield 119, 3) := by decide +kernel
theorem dX10_atom_24 : decode cX10_atom 24 = .ok (.aload_n 0, 1) := by decide +kernel
theorem dX10_atom_25 : decode cX10_atom 25 = .ok (.getfield 20, 3) := by decide +kernel
theorem dX10_atom_28 : decode cX10_atom 28 = .ok (.iload_n 1, 1) := by decide +kernel
theorem dX10_atom_29 : decode cX10_atom 29 = .ok (.iaload, 1) := by decide +kernel
theorem dX10_atom_30 : decode cX10_atom 30 = .ok (.ireturn, 1) := by decide +kernel
theorem dX10_atom_31 : decode cX10_atom 31 = .ok (.iload_n 1, 1) := by decide +kernel
theorem dX10_atom_32 : decode cX10_atom 32 = .ok (.bipush 91, 2) := by decide +kernel
theorem dX10_atom_34 : decode cX10_atom 34 = .ok (.if_icmp .ne 40, 3) := by decide +kernel
theorem dX10_atom_37 : decode cX10_atom 37 = .ok (.aload_n 0, 1) := by decide +kernel
theorem dX10_atom_38 : decode cX10_atom 38 = .ok (.invokevirtual 158, 3) := by decide +kernel
theorem dX10_atom_41 : decode cX10_atom 41 = .ok (.ifCond .ne 5, 3) := by decide +kernel
theorem dX10_atom_44 : decode cX10_atom 44 = .ok (.iconst 0, 1) := by decide +kernel
theorem dX10_atom_45 : decode cX10_atom 45 = .ok (.ireturn, 1) := by decide +kernel
theorem dX10_atom_46 : decode cX10_atom 46 = .ok (.aload_n 0, 1) := by decide +kernel
theorem dX10_atom_47 : decode cX10_atom 47 = .ok (.invokevirtual 161, 3) := by decide +kernel
theorem dX10_atom_50 : decode cX10_atom 50 = .ok (.istore_n 2, 1) := by decide +kernel
theorem dX10_atom_51 : decode cX10_atom 51 = .ok (.aload_n 0, 1) := by decide +kernel
theorem dX10_atom_52 : decode cX10_atom 52 = .ok (.bipush 93, 2) := by decide +kernel
theorem dX10_atom_54 : decode cX10_atom 54 = .ok (.invokevirtual 164, 3) := by decide +kernel
theorem dX10_atom_57 : decode cX10_atom 57 = .ok (.ifCond .ne 5, 3) := by decide +kernel
theorem dX10_atom_60 : decode cX10_atom 60 = .ok (.iconst 0, 1) := by decide +kernel
theorem dX10_atom_61 : decode cX10_atom 61 = .ok (.ireturn, 1) := by decide +kernel
theorem dX10_atom_62 : decode cX10_atom 62 = .ok (.aload_n 0, 1) := by decide +kernel
theorem dX10_atom_63 : decode cX10_atom 63 = .ok (.dup, 1) := by decide +kernel
theorem dX10_atom_64 : decode cX10_atom 64 = .ok (.getfield 131, 3) := by decide +kernel
theorem dX10_atom_67 : decode cX10_atom 67 = .ok (.iconst 1, 1) := by decide +kernel
theorem dX10_atom_68 : decode cX10_atom 68 = .ok (.isub, 1) := by decide +kernel
theorem dX10_atom_69 : decode cX10_atom 69 = .ok (.putfield 131, 3) := by decide +kernel
theorem dX10_atom_72 : decode cX10_atom 72 = .ok (.iload_n 2, 1) := by decide +kernel
theorem dX10_atom_73 : decode cX10_atom 73 = .ok (.ireturn, 1) := by decide +kernel
theorem dX10_atom_74 : decode cX10_atom 74 = .ok (.aload_n 0, 1) := by decide +kernel
theorem dX10_atom_75 : decode cX10_atom 75 = .ok (.invokevirtual 168, 3) := by decide +kernel
theorem dX10_atom_78 : decode cX10_atom 78 = .ok (.ifCond .ne 8, 3) := by decide +kernel
theorem dX10_atom_81 : decode cX10_atom 81 = .ok (.aload_n 0, 1) := by decide +kernel
theorem dX10_atom_82 : decode cX10_atom 82 = .ok (.invokevirtual 134, 3) := by decide +kernel
theorem dX10_atom_85 : decode cX10_atom 85 = .ok (.pop, 1) := by decide +kernel
theorem dX10_atom_86 : decode cX10_atom 86 = .ok (.iconst 0, 1) := by decide +kernel
theorem dX10_atom_87 : decode cX10_atom 87 = .ok (.istore_n 2, 1) := by decide +kernel
theorem dX10_atom_88 : decode cX10_atom 88 = .ok (.iconst 0, 1) := by decide +kernel
theorem dX10_atom_89 : decode cX10_atom 89 = .ok (.istore_n 3, 1) := by decide +kernel
theorem dX10_atom_90 : decode cX10_atom 90 = .ok (.aload_n 0, 1) := by decide +kernel
theorem dX10_atom_91 : decode cX10_atom 91 = .ok (.invokevirtual 168, 3) := by decide +kernel
theorem dX10_atom_94 : decode cX10_atom 94 = .ok (.ifCond .eq 62, 3) := by decide +kernel
theorem dX10_atom_97 : decode cX10_atom 97 = .ok (.aload_n 0, 1) := by decide +kernel
theorem dX10_atom_98 : decode cX10_atom 98 = .ok (.getfield 128, 3) := by decide +kernel
theorem dX10_atom_101 : decode cX10_atom 101 = .ok (.iconst (-1), 1) := by decide +kernel
theorem dX10_atom_102 : decode cX10_atom 102 = .ok (.if_icmp .ne 54, 3) := by decide +kernel
theorem dX10_atom_105 : decode cX10_atom 105 = .ok (.iload_n 3, 1) := by decide +kernel
theorem dX10_atom_106 : decode cX10_atom 106 = .ok (.iconst 4, 1) := by decide +kernel
theorem dX10_atom_107 : decode cX10_atom 107 = .ok (.if_icmp .ne 10, 3) := by decide +kernel
theorem dX10_atom_110 : decode cX10_atom 110 = .ok (.aload_n 0, 1) := by decide +kernel
theorem dX10_atom_111 : decode cX10_atom 111 = .ok (.invokevirtual 134, 3) := by decide +kernel
theorem dX10_atom_114 : decode cX10_atom 114 = .ok (.pop, 1) := by decide +kernel
theorem dX10_atom_115 : decode cX10_atom 115 = .ok (.iconst 0, 1) := by decide +kernel
theorem dX10_atom_116 : decode cX10_atom 116 = .ok (.ireturn, 1) := by decide +kernel
theorem dX10_atom_117 : decode cX10_atom 117 = .ok (.bipush 10, 2) := by decide +kernel
theorem dX10_atom_119 : decode cX10_atom 119 = .ok (.iload_n 2, 1) := by decide +kernel
theorem dX10_atom_120 : decode cX10_atom 120 = .ok (.imul, 1) := by decide +kernel
theorem dX10_atom_121 : decode cX10_atom 121 = .ok (.aload_n 0, 1) := by decide +kernel
theorem dX10_atom_122 : decode cX10_atom 122 = .ok (.getfield 23, 3) := by decide +kernel
theorem dX10_atom_125 : decode cX10_atom 125 = .ok (.aload_n 0, 1) := by decide +kernel
theorem dX10_atom_126 : decode cX10_atom 126 = .ok (.getfield 125, 3) := by decide +kernel
theorem dX10_atom_129 : decode cX10_atom 129 = .ok (.aload_n 0, 1) := by decide +kernel
theorem dX10_atom_130 : decode cX10_atom 130 = .ok (.getfield 119, 3) := by decide +kernel
theorem dX10_atom_133 : decode cX10_atom 133 = .ok (.iadd, 1) := by decide +kernel
theorem dX10_atom_134 : decode cX10_atom 134 = .ok (.baload, 1) := by decide +kernel
theorem dX10_atom_135 : decode cX10_atom 135 = .ok (.iadd, 1) := by decide +kernel
theorem dX10_atom_136 : decode cX10_atom 136 = .ok (.bipush 48, 2) := by decide +kernel
theorem dX10_atom_138 : decode cX10_atom 138 = .ok (.isub, 1) := by decide +kernel
theorem dX10_atom_139 : decode cX10_atom 139 = .ok (.istore_n 2, 1) := by decide +kernel
theorem dX10_atom_140 : decode cX10_atom 140 = .ok (.aload_n 0, 1) := by decide +kernel
theorem dX10_atom_141 : decode cX10_atom 141 = .ok (.dup, 1) := by decide +kernel
theorem dX10_atom_142 : decode cX10_atom 142 = .ok (.getfield 119, 3) := by decide +kernel
theorem dX10_atom_145 : decode cX10_atom 145 = .ok (.iconst 1, 1) := by decide +kernel
theorem dX10_atom_146 : decode cX10_atom 146 = .ok (.iadd, 1) := by decide +kernel
theorem dX10_atom_147 : decode cX10_atom 147 = .ok (.putfield 119, 3) := by decide +kernel
theorem dX10_atom_150 : decode cX10_atom 150 = .ok (.iinc 3 1, 3) := by decide +kernel
theorem dX10_atom_153 : decode cX10_atom 153 = .ok (.goto (-63), 3) := by decide +kernel
theorem dX10_atom_156 : decode cX10_atom 156 = .ok (.iload_n 2, 1) := by decide +kernel
theorem dX10_atom_157 : decode cX10_atom 157 = .ok (.ireturn, 1) := by decide +kernel
theorem dX10_term_0 : decode cX10_term 0 = .ok (.aload_n 0, 1) := by decide +kernel
theorem dX10_term_1 : decode cX10_term 1 = .ok (.invokevirtual 171, 3) := by decide +kernel
theorem dX10_term_4 : decode cX10_term 4 = .ok (.istore_n 1, 1) := by decide +kernel
theorem dX10_term_5 : decode cX10_term 5 = .ok (.aload_n 0, 1) := by decide +kernel
theorem dX10_term_6 : decode cX10_term 6 = .ok (.getfield 128, 3) := by decide +kernel
theorem dX10_term_9 : decode cX10_term 9 = .ok (.iconst (-1), 1) := by decide +kernel
theorem dX10_term_10 : decode cX10_term 10 = .ok (.if_icmp .ne 84, 3) := by decide +kernel
theorem dX10_term_13 : decode cX10_term 13 = .ok (.aload_n 0, 1) := by decide +kernel
theorem dX10_term_14 : decode cX10_term 14 = .ok (.invokevirtual 138, 3) := by decide +kernel
theorem dX10_term_17 : decode cX10_term 17 = .ok (.bipush 42, 2) := by decide +kernel
theorem dX10_term_19 : decode cX10_term 19 = .ok (.if_icmp .eq 12, 3) := by decide +kernel
theorem dX10_term_22 : decode cX10_term 22 = .ok (.aload_n 0, 1) := by decide +kernel
theorem dX10_term_23 : decode cX10_term 23 = .ok (.invokevirtual 138, 3) := by decide +kernel
theorem dX10_term_26 : decode cX10_term 26 = .ok (.bipush 47, 2) := by decide +kernel
theorem dX10_term_28 : decode cX10_term 28 = .ok (.if_icmp .ne 66, 3) := by decide +kernel
theorem dX10_term_31 : decode cX10_term 31 = .ok (.aload_n 0, 1) := by decide +kernel
theorem dX10_term_32 : decode cX10_term 32 = .ok (.invokevirtual 138, 3) := by decide +kernel
theorem dX10_term_35 : decode cX10_term 35 = .ok (.bipush 42, 2) := by decide +kernel
theorem dX10_term_37 : decode cX10_term 37 = .ok (.if_icmp .ne 7, 3) := by decide +kernel
theorem dX10_term_40 : decode cX10_term 40 = .ok (.iconst 1, 1) := by decide +kernel
theorem dX10_term_41 : decode cX10_term 41 = .ok (.goto 4, 3) := by decide +kernel
theorem dX10_term_44 : decode cX10_term 44 = .ok (.iconst 0, 1) := by decide +kernel
theorem dX10_term_45 : decode cX10_term 45 = .ok (.istore_n 2, 1) := by decide +kernel
theorem dX10_term_46 : decode cX10_term 46 = .ok (.aload_n 0, 1) := by decide +kernel
theorem dX10_term_47 : decode cX10_term 47 = .ok (.dup, 1) := by decide +kernel
theorem dX10_term_48 : decode cX10_term 48 = .ok (.getfield 119, 3) := by decide +kernel
theorem dX10_term_51 : decode cX10_term 51 = .ok (.iconst 1, 1) := by decide +kernel
theorem dX10_term_52 : decode cX10_term 52 = .ok (.iadd, 1) := by decide +kernel
theorem dX10_term_53 : decode cX10_term 53 = .ok (.putfield 119, 3) := by decide +kernel
theorem dX10_term_56 : decode cX10_term 56 = .ok (.aload_n 0, 1) := by decide +kernel
theorem dX10_term_57 : decode cX10_term 57 = .ok (.invokevirtual 171, 3) := by decide +kernel
theorem dX10_term_60 : decode cX10_term 60 = .ok (.i2l, 1) := by decide +kernel
theorem dX10_term_61 : decode cX10_term 61 = .ok (.lstore_n 3, 1) := by decide +kernel
theorem dX10_term_62 : decode cX10_term 62 = .ok (.iload_n 2, 1) := by decide +kernel
theorem dX10_term_63 : decode cX10_term 63 = .ok (.ifCond .eq 10, 3) := by decide +kernel
theorem dX10_term_66 : decode cX10_term 66 = .ok (.iload_n 1, 1) := by decide +kernel
theorem dX10_term_67 : decode cX10_term 67 = .ok (.i2l, 1) := by decide +kernel
theorem dX10_term_68 : decode cX10_term 68 = .ok (.lload_n 3, 1) := by decide +kernel
theorem dX10_term_69 : decode cX10_term 69 = .ok (.lmul, 1) := by decide +kernel
theorem dX10_term_70 : decode cX10_term 70 = .ok (.goto 17, 3) := by decide +kernel
theorem dX10_term_73 : decode cX10_term 73 = .ok (.lload_n 3, 1) := by decide +kernel
theorem dX10_term_74 : decode cX10_term 74 = .ok (.lconst 0, 1) := by decide +kernel
theorem dX10_term_75 : decode cX10_term 75 = .ok (.lcmp, 1) := by decide +kernel
theorem dX10_term_76 : decode cX10_term 76 = .ok (.ifCond .ne 7, 3) := by decide +kernel
theorem dX10_term_79 : decode cX10_term 79 = .ok (.lconst 0, 1) := by decide +kernel
theorem dX10_term_80 : decode cX10_term 80 = .ok (.goto 7, 3) := by decide +kernel
theorem dX10_term_83 : decode cX10_term 83 = .ok (.iload_n 1, 1) := by decide +kernel
theorem dX10_term_84 : decode cX10_term 84 = .ok (.i2l, 1) := by decide +kernel
theorem dX10_term_85 : decode cX10_term 85 = .ok (.lload_n 3, 1) := by decide +kernel
theorem dX10_term_86 : decode cX10_term 86 = .ok (.ldiv, 1) := by decide +kernel
theorem dX10_term_87 : decode cX10_term 87 = .ok (.invokestatic 174, 3) := by decide +kernel
theorem dX10_term_90 : decode cX10_term 90 = .ok (.istore_n 1, 1) := by decide +kernel
theorem dX10_term_91 : decode cX10_term 91 = .ok (.goto (-86), 3) := by decide +kernel
theorem dX10_term_94 : decode cX10_term 94 = .ok (.iload_n 1, 1) := by decide +kernel
theorem dX10_term_95 : decode cX10_term 95 = .ok (.ireturn, 1) := by decide +kernel
theorem dX10_sum_0 : decode cX10_sum 0 = .ok (.aload_n 0, 1) := by decide +kernel
theorem dX10_sum_1 : decode cX10_sum 1 = .ok (.invokevirtual 178, 3) := by decide +kernel
theorem dX10_sum_4 : decode cX10_sum 4 = .ok (.istore_n 1, 1) := by decide +kernel
theorem dX10_sum_5 : decode cX10_sum 5 = .ok (.aload_n 0, 1) := by decide +kernel
theorem dX10_sum_6 : decode cX10_sum 6 = .ok (.getfield 128, 3) := by decide +kernel
theorem dX10_sum_9 : decode cX10_sum 9 = .ok (.iconst (-1), 1) := by decide +kernel
theorem dX10_sum_10 : decode cX10_sum 10 = .ok (.if_icmp .ne 74, 3) := by decide +kernel
theorem dX10_sum_13 : decode cX10_sum 13 = .ok (.aload_n 0, 1) := by decide +kernel
theorem dX10_sum_14 : decode cX10_sum 14 = .ok (.invokevirtual 138, 3) := by decide +kernel
theorem dX10_sum_17 : decode cX10_sum 17 = .ok (.bipush 43, 2) := by decide +kernel
theorem dX10_sum_19 : decode cX10_sum 19 = .ok (.if_icmp .eq 12, 3) := by decide +kernel
theorem dX10_sum_22 : decode cX10_sum 22 = .ok (.aload_n 0, 1) := by decide +kernel
theorem dX10_sum_23 : decode cX10_sum 23 = .ok (.invokevirtual 138, 3) := by decide +kernel
theorem dX10_sum_26 : decode cX10_sum 26 = .ok (.bipush 45, 2) := by decide +kernel
theorem dX10_sum_28 : decode cX10_sum 28 = .ok (.if_icmp .ne 56, 3) := by decide +kernel
theorem dX10_sum_31 : decode cX10_sum 31 = .ok (.aload_n 0, 1) := by decide +kernel
theorem dX10_sum_32 : decode cX10_sum 32 = .ok (.invokevirtual 138, 3) := by decide +kernel
theorem dX10_sum_35 : decode cX10_sum 35 = .ok (.bipush 43, 2) := by decide +kernel
theorem dX10_sum_37 : decode cX10_sum 37 = .ok (.if_icmp .ne 7, 3) := by decide +kernel
theorem dX10_sum_40 : decode cX10_sum 40 = .ok (.iconst 1, 1) := by decide +kernel
theorem dX10_sum_41 : decode cX10_sum 41 = .ok (.goto 4, 3) := by decide +kernel
theorem dX10_sum_44 : decode cX10_sum 44 = .ok (.iconst 0, 1) := by decide +kernel
theorem dX10_sum_45 : decode cX10_sum 45 = .ok (.istore_n 2, 1) := by decide +kernel
theorem dX10_sum_46 : decode cX10_sum 46 = .ok (.aload_n 0, 1) := by decide +kernel
theorem dX10_sum_47 : decode cX10_sum 47 = .ok (.dup, 1) := by decide +kernel
theorem dX10_sum_48 : decode cX10_sum 48 = .ok (.getfield 119, 3) := by decide +kernel
theorem dX10_sum_51 : decode cX10_sum 51 = .ok (.iconst 1, 1) := by decide +kernel
theorem dX10_sum_52 : decode cX10_sum 52 = .ok (.iadd, 1) := by decide +kernel
theorem dX10_sum_53 : decode cX10_sum 53 = .ok (.putfield 119, 3) := by decide +kernel
theorem dX10_sum_56 : decode cX10_sum 56 = .ok (.aload_n 0, 1) := by decide +kernel
theorem dX10_sum_57 : decode cX10_sum 57 = .ok (.invokevirtual 178, 3) := by decide +kernel
theorem dX10_sum_60 : decode cX10_sum 60 = .ok (.i2l, 1) := by decide +kernel
theorem dX10_sum_61 : decode cX10_sum 61 = .ok (.lstore_n 3, 1) := by decide +kernel
theorem dX10_sum_62 : decode cX10_sum 62 = .ok (.iload_n 2, 1) := by decide +kernel
theorem dX10_sum_63 : decode cX10_sum 63 = .ok (.ifCond .eq 10, 3) := by decide +kernel
theorem dX10_sum_66 : decode cX10_sum 66 = .ok (.iload_n 1, 1) := by decide +kernel
theorem dX10_sum_67 : decode cX10_sum 67 = .ok (.i2l, 1) := by decide +kernel
theorem dX10_sum_68 : decode cX10_sum 68 = .ok (.lload_n 3, 1) := by decide +kernel
theorem dX10_sum_69 : decode cX10_sum 69 = .ok (.ladd, 1) := by decide +kernel
theorem dX10_sum_70 : decode cX10_sum 70 = .ok (.goto 7, 3) := by decide +kernel
theorem dX10_sum_73 : decode cX10_sum 73 = .ok (.iload_n 1, 1) := by decide +kernel
theorem dX10_sum_74 : decode cX10_sum 74 = .ok (.i2l, 1) := by decide +kernel
theorem dX10_sum_75 : decode cX10_sum 75 = .ok (.lload_n 3, 1) := by decide +kernel
theorem dX10_sum_76 : decode cX10_sum 76 = .ok (.lsub, 1) := by decide +kernel
theorem dX10_sum_77 : decode cX10_sum 77 = .ok (.invokestatic 174, 3) := by decide +kernel
theorem dX10_sum_80 : decode cX10_sum 80 = .ok (.istore_n 1, 1) := by decide +kernel
theorem dX10_sum_81 : decode cX10_sum 81 = .ok (.goto (-76), 3) := by decide +kernel
theorem dX10_sum_84 : decode cX10_sum 84 = .ok (.iload_n 1, 1) := by decide +kernel
theorem dX10_sum_85 : decode cX10_sum 85 = .ok (.ireturn, 1) := by decide +kernel
theorem dX10_compares_0 : decode cX10_compares 0 = .ok (.iload_n 1, 1) := by decide +kernel
theorem dX10_compares_1 : decode cX10_compares 1 = .ok (.ifCond .eq 7, 3) := by decide +kernel
theorem dX10_compares_4 : decode cX10_compares 4 = .ok (.iload_n 2, 1) := by decide +kernel
theorem dX10_compares_5 : decode cX10_compares 5 = .ok (.goto 7, 3) := by decide +kernel
theorem dX10_compares_8 : decode cX10_compares 8 = .ok (.aload_n 0, 1) := by decide +kernel
theorem dX10_compares_9 : decode cX10_compares 9 = .ok (.invokevirtual 161, 3) := by decide +kernel
theorem dX10_compares_12 : decode cX10_compares 12 = .ok (.istore_n 3, 1) := by decide +kernel
theorem dX10_compares_13 : decode cX10_compares 13 = .ok (.aload_n 0, 1) := by decide +kernel
theorem dX10_compares_14 : decode cX10_compares 14 = .ok (.getfield 128, 3) := by decide +kernel
theorem dX10_compares_17 : decode cX10_compares 17 = .ok (.iconst (-1), 1) := by decide +kernel
theorem dX10_compares_18 : decode cX10_compares 18 = .ok (.if_icmp .eq 5, 3) := by decide +kernel
theorem dX10_compares_21 : decode cX10_compares 21 = .ok (.iconst 0, 1) := by decide +kernel
theorem dX10_compares_22 : decode cX10_compares 22 = .ok (.ireturn, 1) := by decide +kernel
theorem dX10_compares_23 : decode cX10_compares 23 = .ok (.aload_n 0, 1) := by decide +kernel
theorem dX10_compares_24 : decode cX10_compares 24 = .ok (.invokevirtual 138, 3) := by decide +kernel
theorem dX10_compares_27 : decode cX10_compares 27 = .ok (.istore 4, 2) := by decide +kernel
theorem dX10_compares_29 : decode cX10_compares 29 = .ok (.iload 4, 2) := by decide +kernel
theorem dX10_compares_31 : decode cX10_compares 31 = .ok (.invokestatic 181, 3) := by decide +kernel
theorem dX10_compares_34 : decode cX10_compares 34 = .ok (.ifCond .ne 8, 3) := by decide +kernel
theorem dX10_compares_37 : decode cX10_compares 37 = .ok (.aload_n 0, 1) := by decide +kernel
theorem dX10_compares_38 : decode cX10_compares 38 = .ok (.invokevirtual 134, 3) := by decide +kernel
theorem dX10_compares_41 : decode cX10_compares 41 = .ok (.ireturn, 1) := by decide +kernel
theorem dX10_compares_42 : decode cX10_compares 42 = .ok (.aload_n 0, 1) := by decide +kernel
theorem dX10_compares_43 : decode cX10_compares 43 = .ok (.dup, 1) := by decide +kernel
theorem dX10_compares_44 : decode cX10_compares 44 = .ok (.getfield 119, 3) := by decide +kernel
theorem dX10_compares_47 : decode cX10_compares 47 = .ok (.iconst 1, 1) := by decide +kernel
theorem dX10_compares_48 : decode cX10_compares 48 = .ok (.iadd, 1) := by decide +kernel
theorem dX10_compares_49 : decode cX10_compares 49 = .ok (.putfield 119, 3) := by decide +kernel
theorem dX10_compares_52 : decode cX10_compares 52 = .ok (.aload_n 0, 1) := by decide +kernel
theorem dX10_compares_53 : decode cX10_compares 53 = .ok (.invokevirtual 161, 3) := by decide +kernel
theorem dX10_compares_56 : decode cX10_compares 56 = .ok (.istore 5, 2) := by decide +kernel
theorem dX10_compares_58 : decode cX10_compares 58 = .ok (.iload 4, 2) := by decide +kernel
theorem dX10_compares_60 : decode cX10_compares 60 = .ok (.bipush 61, 2) := by decide +kernel
theorem dX10_compares_62 : decode cX10_compares 62 = .ok (.if_icmp .ne 17, 3) := by decide +kernel
theorem dX10_compares_65 : decode cX10_compares 65 = .ok (.iload_n 3, 1) := by decide +kernel
theorem dX10_compares_66 : decode cX10_compares 66 = .ok (.iload 5, 2) := by decide +kernel
theorem dX10_compares_68 : decode cX10_compares 68 = .ok (.if_icmp .ne 7, 3) := by decide +kernel
theorem dX10_compares_71 : decode cX10_compares 71 = .ok (.iconst 1, 1) := by decide +kernel
theorem dX10_compares_72 : decode cX10_compares 72 = .ok (.goto 39, 3) := by decide +kernel
theorem dX10_compares_75 : decode cX10_compares 75 = .ok (.iconst 0, 1) := by decide +kernel
theorem dX10_compares_76 : decode cX10_compares 76 = .ok (.goto 35, 3) := by decide +kernel
theorem dX10_compares_79 : decode cX10_compares 79 = .ok (.iload 4, 2) := by decide +kernel
theorem dX10_compares_81 : decode cX10_compares 81 = .ok (.bipush 60, 2) := by decide +kernel
theorem dX10_compares_83 : decode cX10_compares 83 = .ok (.if_icmp .ne 17, 3) := by decide +kernel
theorem dX10_compares_86 : decode cX10_compares 86 = .ok (.iload_n 3, 1) := by decide +kernel
theorem dX10_compares_87 : decode cX10_compares 87 = .ok (.iload 5, 2) := by decide +kernel
theorem dX10_compares_89 : decode cX10_compares 89 = .ok (.if_icmp .ge 7, 3) := by decide +kernel
theorem dX10_compares_92 : decode cX10_compares 92 = .ok (.iconst 1, 1) := by decide +kernel
theorem dX10_compares_93 : decode cX10_compares 93 = .ok (.goto 18, 3) := by decide +kernel
theorem dX10_compares_96 : decode cX10_compares 96 = .ok (.iconst 0, 1) := by decide +kernel
theorem dX10_compares_97 : decode cX10_compares 97 = .ok (.goto 14, 3) := by decide +kernel
theorem dX10_compares_100 : decode cX10_compares 100 = .ok (.iload_n 3, 1) := by decide +kernel
theorem dX10_compares_101 : decode cX10_compares 101 = .ok (.iload 5, 2) := by decide +kernel
theorem dX10_compares_103 : decode cX10_compares 103 = .ok (.if_icmp .le 7, 3) := by decide +kernel
theorem dX10_compares_106 : decode cX10_compares 106 = .ok (.iconst 1, 1) := by decide +kernel
theorem dX10_compares_107 : decode cX10_compares 107 = .ok (.goto 4, 3) := by decide +kernel
theorem dX10_compares_110 : decode cX10_compares 110 = .ok (.iconst 0, 1) := by decide +kernel
theorem dX10_compares_111 : decode cX10_compares 111 = .ok (.ireturn, 1) := by decide +kernel
theorem dX10_part_0 : decode cX10_part 0 = .ok (.iload_n 1, 1) := by decide +kernel
theorem dX10_part_1 : decode cX10_part 1 = .ok (.ifCond .eq 12, 3) := by decide +kernel
theorem dX10_part_4 : decode cX10_part 4 = .ok (.aload_n 0, 1) := by decide +kernel
theorem dX10_part_5 : decode cX10_part 5 = .ok (.iconst 1, 1) := by decide +kernel
theorem dX10_part_6 : decode cX10_part 6 = .ok (.iload_n 2, 1) := by decide +kernel
theorem dX10_part_7 : decode cX10_part 7 = .ok (.invokevirtual 191, 3) := by decide +kernel
theorem dX10_part_10 : decode cX10_part 10 = .ok (.goto 7, 3) := by decide +kernel
theorem dX10_part_13 : decode cX10_part 13 = .ok (.aload_n 0, 1) := by decide +kernel
theorem dX10_part_14 : decode cX10_part 14 = .ok (.invokevirtual 184, 3) := by decide +kernel
theorem dX10_part_17 : decode cX10_part 17 = .ok (.istore_n 3, 1) := by decide +kernel
theorem dX10_part_18 : decode cX10_part 18 = .ok (.aload_n 0, 1) := by decide +kernel
theorem dX10_part_19 : decode cX10_part 19 = .ok (.getfield 128, 3) := by decide +kernel
theorem dX10_part_22 : decode cX10_part 22 = .ok (.iconst (-1), 1) := by decide +kernel
theorem dX10_part_23 : decode cX10_part 23 = .ok (.if_icmp .ne 46, 3) := by decide +kernel
theorem dX10_part_26 : decode cX10_part 26 = .ok (.aload_n 0, 1) := by decide +kernel
theorem dX10_part_27 : decode cX10_part 27 = .ok (.invokevirtual 138, 3) := by decide +kernel
theorem dX10_part_30 : decode cX10_part 30 = .ok (.bipush 38, 2) := by decide +kernel
theorem dX10_part_32 : decode cX10_part 32 = .ok (.if_icmp .ne 37, 3) := by decide +kernel
theorem dX10_part_35 : decode cX10_part 35 = .ok (.aload_n 0, 1) := by decide +kernel
theorem dX10_part_36 : decode cX10_part 36 = .ok (.dup, 1) := by decide +kernel
theorem dX10_part_37 : decode cX10_part 37 = .ok (.getfield 119, 3) := by decide +kernel
theorem dX10_part_40 : decode cX10_part 40 = .ok (.iconst 1, 1) := by decide +kernel
theorem dX10_part_41 : decode cX10_part 41 = .ok (.iadd, 1) := by decide +kernel
theorem dX10_part_42 : decode cX10_part 42 = .ok (.putfield 119, 3) := by decide +kernel
theorem dX10_part_45 : decode cX10_part 45 = .ok (.aload_n 0, 1) := by decide +kernel
theorem dX10_part_46 : decode cX10_part 46 = .ok (.invokevirtual 184, 3) := by decide +kernel
theorem dX10_part_49 : decode cX10_part 49 = .ok (.istore 4, 2) := by decide +kernel
theorem dX10_part_51 : decode cX10_part 51 = .ok (.iload_n 3, 1) := by decide +kernel
theorem dX10_part_52 : decode cX10_part 52 = .ok (.ifCond .eq 12, 3) := by decide +kernel
theorem dX10_part_55 : decode cX10_part 55 = .ok (.iload 4, 2) := by decide +kernel
theorem dX10_part_57 : decode cX10_part 57 = .ok (.ifCond .eq 7, 3) := by decide +kernel
theorem dX10_part_60 : decode cX10_part 60 = .ok (.iconst 1, 1) := by decide +kernel
theorem dX10_part_61 : decode cX10_part 61 = .ok (.goto 4, 3) := by decide +kernel
theorem dX10_part_64 : decode cX10_part 64 = .ok (.iconst 0, 1) := by decide +kernel
theorem dX10_part_65 : decode cX10_part 65 = .ok (.istore_n 3, 1) := by decide +kernel
theorem dX10_part_66 : decode cX10_part 66 = .ok (.goto (-48), 3) := by decide +kernel
theorem dX10_part_69 : decode cX10_part 69 = .ok (.iload_n 3, 1) := by decide +kernel
theorem dX10_part_70 : decode cX10_part 70 = .ok (.ireturn, 1) := by decide +kernel
theorem dX10_condition_0 : decode cX10_condition 0 = .ok (.aload_n 0, 1) := by decide +kernel
theorem dX10_condition_1 : decode cX10_condition 1 = .ok (.iload_n 1, 1) := by decide +kernel
theorem dX10_condition_2 : decode cX10_condition 2 = .ok (.iload_n 2, 1) := by decide +kernel
theorem dX10_condition_3 : decode cX10_condition 3 = .ok (.invokevirtual 194, 3) := by decide +kernel
theorem dX10_condition_6 : decode cX10_condition 6 = .ok (.istore_n 3, 1) := by decide +kernel
theorem dX10_condition_7 : decode cX10_condition 7 = .ok (.aload_n 0, 1) := by decide +kernel
theorem dX10_condition_8 : decode cX10_condition 8 = .ok (.getfield 128, 3) := by decide +kernel
theorem dX10_condition_11 : decode cX10_condition 11 = .ok (.iconst (-1), 1) := by decide +kernel
theorem dX10_condition_12 : decode cX10_condition 12 = .ok (.if_icmp .ne 48, 3) := by decide +kernel
theorem dX10_condition_15 : decode cX10_condition 15 = .ok (.aload_n 0, 1) := by decide +kernel
theorem dX10_condition_16 : decode cX10_condition 16 = .ok (.invokevirtual 138, 3) := by decide +kernel
theorem dX10_condition_19 : decode cX10_condition 19 = .ok (.bipush 124, 2) := by decide +kernel
theorem dX10_condition_21 : decode cX10_condition 21 = .ok (.if_icmp .ne 39, 3) := by decide +kernel
theorem dX10_condition_24 : decode cX10_condition 24 = .ok (.aload_n 0, 1) := by decide +kernel
theorem dX10_condition_25 : decode cX10_condition 25 = .ok (.dup, 1) := by decide +kernel
theorem dX10_condition_26 : decode cX10_condition 26 = .ok (.getfield 119, 3) := by decide +kernel
theorem dX10_condition_29 : decode cX10_condition 29 = .ok (.iconst 1, 1) := by decide +kernel
theorem dX10_condition_30 : decode cX10_condition 30 = .ok (.iadd, 1) := by decide +kernel
theorem dX10_condition_31 : decode cX10_condition 31 = .ok (.putfield 119, 3) := by decide +kernel
theorem dX10_condition_34 : decode cX10_condition 34 = .ok (.aload_n 0, 1) := by decide +kernel
theorem dX10_condition_35 : decode cX10_condition 35 = .ok (.iconst 0, 1) := by decide +kernel
theorem dX10_condition_36 : decode cX10_condition 36 = .ok (.iconst 0, 1) := by decide +kernel
theorem dX10_condition_37 : decode cX10_condition 37 = .ok (.invokevirtual 194, 3) := by decide +kernel
theorem dX10_condition_40 : decode cX10_condition 40 = .ok (.istore 4, 2) := by decide +kernel
theorem dX10_condition_42 : decode cX10_condition 42 = .ok (.iload_n 3, 1) := by decide +kernel
theorem dX10_condition_43 : decode cX10_condition 43 = .ok (.ifCond .ne 8, 3) := by decide +kernel
theorem dX10_condition_46 : decode cX10_condition 46 = .ok (.iload 4, 2) := by decide +kernel
theorem dX10_condition_48 : decode cX10_condition 48 = .ok (.ifCond .eq 7, 3) := by decide +kernel
theorem dX10_condition_51 : decode cX10_condition 51 = .ok (.iconst 1, 1) := by decide +kernel
theorem dX10_condition_52 : decode cX10_condition 52 = .ok (.goto 4, 3) := by decide +kernel
theorem dX10_condition_55 : decode cX10_condition 55 = .ok (.iconst 0, 1) := by decide +kernel
theorem dX10_condition_56 : decode cX10_condition 56 = .ok (.istore_n 3, 1) := by decide +kernel
theorem dX10_condition_57 : decode cX10_condition 57 = .ok (.goto (-50), 3) := by decide +kernel
theorem dX10_condition_60 : decode cX10_condition 60 = .ok (.iload_n 3, 1) := by decide +kernel
theorem dX10_condition_61 : decode cX10_condition 61 = .ok (.ireturn, 1) := by decide +kernel
theorem dX10_unit_0 : decode cX10_unit 0 = .ok (.aload_n 0, 1) := by decide +kernel
theorem dX10_unit_1 : decode cX10_unit 1 = .ok (.invokevirtual 138, 3) := by decide +kernel
theorem dX10_unit_4 : decode cX10_unit 4 = .ok (.istore_n 1, 1) := by decide +kernel
theorem dX10_unit_5 : decode cX10_unit 5 = .ok (.iload_n 1, 1) := by decide +kernel
theorem dX10_unit_6 : decode cX10_unit 6 = .ok (.bipush 33, 2) := by decide +kernel
theorem dX10_unit_8 : decode cX10_unit 8 = .ok (.if_icmp .ne 37, 3) := by decide +kernel
theorem dX10_unit_11 : decode cX10_unit 11 = .ok (.aload_n 0, 1) := by decide +kernel
theorem dX10_unit_12 : decode cX10_unit 12 = .ok (.invokevirtual 158, 3) := by decide +kernel
theorem dX10_unit_15 : decode cX10_unit 15 = .ok (.ifCond .ne 5, 3) := by decide +kernel
theorem dX10_unit_18 : decode cX10_unit 18 = .ok (.iconst 0, 1) := by decide +kernel
theorem dX10_unit_19 : decode cX10_unit 19 = .ok (.ireturn, 1) := by decide +kernel
theorem dX10_unit_20 : decode cX10_unit 20 = .ok (.aload_n 0, 1) := by decide +kernel
theorem dX10_unit_21 : decode cX10_unit 21 = .ok (.invokevirtual 184, 3) := by decide +kernel
theorem dX10_unit_24 : decode cX10_unit 24 = .ok (.istore_n 2, 1) := by decide +kernel
theorem dX10_unit_25 : decode cX10_unit 25 = .ok (.aload_n 0, 1) := by decide +kernel
theorem dX10_unit_26 : decode cX10_unit 26 = .ok (.dup, 1) := by decide +kernel
theorem dX10_unit_27 : decode cX10_unit 27 = .ok (.getfield 131, 3) := by decide +kernel
theorem dX10_unit_30 : decode cX10_unit 30 = .ok (.iconst 1, 1) := by decide +kernel
theorem dX10_unit_31 : decode cX10_unit 31 = .ok (.isub, 1) := by decide +kernel
theorem dX10_unit_32 : decode cX10_unit 32 = .ok (.putfield 131, 3) := by decide +kernel
theorem dX10_unit_35 : decode cX10_unit 35 = .ok (.iload_n 2, 1) := by decide +kernel
theorem dX10_unit_36 : decode cX10_unit 36 = .ok (.ifCond .ne 7, 3) := by decide +kernel
theorem dX10_unit_39 : decode cX10_unit 39 = .ok (.iconst 1, 1) := by decide +kernel
theorem dX10_unit_40 : decode cX10_unit 40 = .ok (.goto 4, 3) := by decide +kernel
theorem dX10_unit_43 : decode cX10_unit 43 = .ok (.iconst 0, 1) := by decide +kernel
theorem dX10_unit_44 : decode cX10_unit 44 = .ok (.ireturn, 1) := by decide +kernel
theorem dX10_unit_45 : decode cX10_unit 45 = .ok (.iload_n 1, 1) := by decide +kernel
theorem dX10_unit_46 : decode cX10_unit 46 = .ok (.bipush 40, 2) := by decide +kernel
theorem dX10_unit_48 : decode cX10_unit 48 = .ok (.if_icmp .ne 42, 3) := by decide +kernel
theorem dX10_unit_51 : decode cX10_unit 51 = .ok (.aload_n 0, 1) := by decide +kernel
theorem dX10_unit_52 : decode cX10_unit 52 = .ok (.invokevirtual 158, 3) := by decide +kernel
theorem dX10_unit_55 : decode cX10_unit 55 = .ok (.ifCond .ne 5, 3) := by decide +kernel
theorem dX10_unit_58 : decode cX10_unit 58 = .ok (.iconst 0, 1) := by decide +kernel
theorem dX10_unit_59 : decode cX10_unit 59 = .ok (.ireturn, 1) := by decide +kernel
theorem dX10_unit_60 : decode cX10_unit 60 = .ok (.aload_n 0, 1) := by decide +kernel
theorem dX10_unit_61 : decode cX10_unit 61 = .ok (.iconst 0, 1) := by decide +kernel
theorem dX10_unit_62 : decode cX10_unit 62 = .ok (.iconst 0, 1) := by decide +kernel
theorem dX10_unit_63 : decode cX10_unit 63 = .ok (.invokevirtual 187, 3) := by decide +kernel
theorem dX10_unit_66 : decode cX10_unit 66 = .ok (.istore_n 2, 1) := by decide +kernel
theorem dX10_unit_67 : decode cX10_unit 67 = .ok (.aload_n 0, 1) := by decide +kernel
theorem dX10_unit_68 : decode cX10_unit 68 = .ok (.bipush 41, 2) := by decide +kernel
theorem dX10_unit_70 : decode cX10_unit 70 = .ok (.invokevirtual 164, 3) := by decide +kernel
theorem dX10_unit_73 : decode cX10_unit 73 = .ok (.ifCond .ne 5, 3) := by decide +kernel
theorem dX10_unit_76 : decode cX10_unit 76 = .ok (.iconst 0, 1) := by decide +kernel
theorem dX10_unit_77 : decode cX10_unit 77 = .ok (.ireturn, 1) := by decide +kernel
theorem dX10_unit_78 : decode cX10_unit 78 = .ok (.aload_n 0, 1) := by decide +kernel
theorem dX10_unit_79 : decode cX10_unit 79 = .ok (.dup, 1) := by decide +kernel
theorem dX10_unit_80 : decode cX10_unit 80 = .ok (.getfield 131, 3) := by decide +kernel
theorem dX10_unit_83 : decode cX10_unit 83 = .ok (.iconst 1, 1) := by decide +kernel
theorem dX10_unit_84 : decode cX10_unit 84 = .ok (.isub, 1) := by decide +kernel
theorem dX10_unit_85 : decode cX10_unit 85 = .ok (.putfield 131, 3) := by decide +kernel
theorem dX10_unit_88 : decode cX10_unit 88 = .ok (.iload_n 2, 1) := by decide +kernel
theorem dX10_unit_89 : decode cX10_unit 89 = .ok (.ireturn, 1) := by decide +kernel
theorem dX10_unit_90 : decode cX10_unit 90 = .ok (.aload_n 0, 1) := by decide +kernel
theorem dX10_unit_91 : decode cX10_unit 91 = .ok (.iconst 0, 1) := by decide +kernel
theorem dX10_unit_92 : decode cX10_unit 92 = .ok (.iconst 0, 1) := by decide +kernel
theorem dX10_unit_93 : decode cX10_unit 93 = .ok (.invokevirtual 191, 3) := by decide +kernel
theorem dX10_unit_96 : decode cX10_unit 96 = .ok (.ireturn, 1) := by decide +kernel
theorem dX10_clause_0 : decode cX10_clause 0 = .ok (.aload_n 0, 1) := by decide +kernel
theorem dX10_clause_1 : decode cX10_clause 1 = .ok (.invokevirtual 138, 3) := by decide +kernel
theorem dX10_clause_4 : decode cX10_clause 4 = .ok (.istore_n 1, 1) := by decide +kernel
theorem dX10_clause_5 : decode cX10_clause 5 = .ok (.ldc 26, 2) := by decide +kernel
theorem dX10_clause_7 : decode cX10_clause 7 = .ok (.iload_n 1, 1) := by decide +kernel
theorem dX10_clause_8 : decode cX10_clause 8 = .ok (.invokestatic 154, 3) := by decide +kernel
theorem dX10_clause_11 : decode cX10_clause 11 = .ok (.ifCond .ne 9, 3) := by decide +kernel
theorem dX10_clause_14 : decode cX10_clause 14 = .ok (.aload_n 0, 1) := by decide +kernel
theorem dX10_clause_15 : decode cX10_clause 15 = .ok (.invokevirtual 134, 3) := by decide +kernel
theorem dX10_clause_18 : decode cX10_clause 18 = .ok (.pop, 1) := by decide +kernel
theorem dX10_clause_19 : decode cX10_clause 19 = .ok (.return_, 1) := by decide +kernel
theorem dX10_clause_20 : decode cX10_clause 20 = .ok (.aload_n 0, 1) := by decide +kernel
theorem dX10_clause_21 : decode cX10_clause 21 = .ok (.dup, 1) := by decide +kernel
theorem dX10_clause_22 : decode cX10_clause 22 = .ok (.getfield 119, 3) := by decide +kernel
theorem dX10_clause_25 : decode cX10_clause 25 = .ok (.iconst 1, 1) := by decide +kernel
theorem dX10_clause_26 : decode cX10_clause 26 = .ok (.iadd, 1) := by decide +kernel
theorem dX10_clause_27 : decode cX10_clause 27 = .ok (.putfield 119, 3) := by decide +kernel
theorem dX10_clause_30 : decode cX10_clause 30 = .ok (.aload_n 0, 1) := by decide +kernel
theorem dX10_clause_31 : decode cX10_clause 31 = .ok (.bipush 58, 2) := by decide +kernel
theorem dX10_clause_33 : decode cX10_clause 33 = .ok (.invokevirtual 164, 3) := by decide +kernel
theorem dX10_clause_36 : decode cX10_clause 36 = .ok (.ifCond .ne 4, 3) := by decide +kernel
theorem dX10_clause_39 : decode cX10_clause 39 = .ok (.return_, 1) := by decide +kernel
theorem dX10_clause_40 : decode cX10_clause 40 = .ok (.iconst 1, 1) := by decide +kernel
theorem dX10_clause_41 : decode cX10_clause 41 = .ok (.istore_n 2, 1) := by decide +kernel
theorem dX10_clause_42 : decode cX10_clause 42 = .ok (.iconst 0, 1) := by decide +kernel
theorem dX10_clause_43 : decode cX10_clause 43 = .ok (.istore_n 3, 1) := by decide +kernel
theorem dX10_clause_44 : decode cX10_clause 44 = .ok (.aload_n 0, 1) := by decide +kernel
theorem dX10_clause_45 : decode cX10_clause 45 = .ok (.invokevirtual 138, 3) := by decide +kernel
theorem dX10_clause_48 : decode cX10_clause 48 = .ok (.istore 4, 2) := by decide +kernel
theorem dX10_clause_50 : decode cX10_clause 50 = .ok (.iload 4, 2) := by decide +kernel
theorem dX10_clause_52 : decode cX10_clause 52 = .ok (.bipush 33, 2) := by decide +kernel
theorem dX10_clause_54 : decode cX10_clause 54 = .ok (.if_icmp .eq 10, 3) := by decide +kernel
theorem dX10_clause_57 : decode cX10_clause 57 = .ok (.iload 4, 2) := by decide +kernel
theorem dX10_clause_59 : decode cX10_clause 59 = .ok (.bipush 40, 2) := by decide +kernel
theorem dX10_clause_61 : decode cX10_clause 61 = .ok (.if_icmp .ne 28, 3) := by decide +kernel
theorem dX10_clause_64 : decode cX10_clause 64 = .ok (.aload_n 0, 1) := by decide +kernel
theorem dX10_clause_65 : decode cX10_clause 65 = .ok (.iconst 0, 1) := by decide +kernel
theorem dX10_clause_66 : decode cX10_clause 66 = .ok (.iconst 0, 1) := by decide +kernel
theorem dX10_clause_67 : decode cX10_clause 67 = .ok (.invokevirtual 187, 3) := by decide +kernel
theorem dX10_clause_70 : decode cX10_clause 70 = .ok (.istore_n 2, 1) := by decide +kernel
theorem dX10_clause_71 : decode cX10_clause 71 = .ok (.aload_n 0, 1) := by decide +kernel
theorem dX10_clause_72 : decode cX10_clause 72 = .ok (.bipush 63, 2) := by decide +kernel
theorem dX10_clause_74 : decode cX10_clause 74 = .ok (.invokevirtual 164, 3) := by decide +kernel
theorem dX10_clause_77 : decode cX10_clause 77 = .ok (.ifCond .ne 4, 3) := by decide +kernel
theorem dX10_clause_80 : decode cX10_clause 80 = .ok (.return_, 1) := by decide +kernel
theorem dX10_clause_81 : decode cX10_clause 81 = .ok (.aload_n 0, 1) := by decide +kernel
theorem dX10_clause_82 : decode cX10_clause 82 = .ok (.invokevirtual 161, 3) := by decide +kernel
theorem dX10_clause_85 : decode cX10_clause 85 = .ok (.istore_n 3, 1) := by decide +kernel
theorem dX10_clause_86 : decode cX10_clause 86 = .ok (.goto 48, 3) := by decide +kernel
theorem dX10_clause_89 : decode cX10_clause 89 = .ok (.aload_n 0, 1) := by decide +kernel
theorem dX10_clause_90 : decode cX10_clause 90 = .ok (.invokevirtual 161, 3) := by decide +kernel
theorem dX10_clause_93 : decode cX10_clause 93 = .ok (.istore_n 3, 1) := by decide +kernel
theorem dX10_clause_94 : decode cX10_clause 94 = .ok (.aload_n 0, 1) := by decide +kernel
theorem dX10_clause_95 : decode cX10_clause 95 = .ok (.getfield 128, 3) := by decide +kernel
theorem dX10_clause_98 : decode cX10_clause 98 = .ok (.iconst (-1), 1) := by decide +kernel
theorem dX10_clause_99 : decode cX10_clause 99 = .ok (.if_icmp .ne 35, 3) := by decide +kernel
theorem dX10_clause_102 : decode cX10_clause 102 = .ok (.aload_n 0, 1) := by decide +kernel
theorem dX10_clause_103 : decode cX10_clause 103 = .ok (.invokevirtual 138, 3) := by decide +kernel
theorem dX10_clause_106 : decode cX10_clause 106 = .ok (.invokestatic 181, 3) := by decide +kernel
theorem dX10_clause_109 : decode cX10_clause 109 = .ok (.ifCond .eq 25, 3) := by decide +kernel
theorem dX10_clause_112 : decode cX10_clause 112 = .ok (.aload_n 0, 1) := by decide +kernel
theorem dX10_clause_113 : decode cX10_clause 113 = .ok (.iconst 1, 1) := by decide +kernel
theorem dX10_clause_114 : decode cX10_clause 114 = .ok (.iload_n 3, 1) := by decide +kernel
theorem dX10_clause_115 : decode cX10_clause 115 = .ok (.invokevirtual 187, 3) := by decide +kernel
theorem dX10_clause_118 : decode cX10_clause 118 = .ok (.istore_n 2, 1) := by decide +kernel
theorem dX10_clause_119 : decode cX10_clause 119 = .ok (.aload_n 0, 1) := by decide +kernel
theorem dX10_clause_120 : decode cX10_clause 120 = .ok (.bipush 63, 2) := by decide +kernel
theorem dX10_clause_122 : decode cX10_clause 122 = .ok (.invokevirtual 164, 3) := by decide +kernel
theorem dX10_clause_125 : decode cX10_clause 125 = .ok (.ifCond .ne 4, 3) := by decide +kernel
theorem dX10_clause_128 : decode cX10_clause 128 = .ok (.return_, 1) := by decide +kernel
theorem dX10_clause_129 : decode cX10_clause 129 = .ok (.aload_n 0, 1) := by decide +kernel
theorem dX10_clause_130 : decode cX10_clause 130 = .ok (.invokevirtual 161, 3) := by decide +kernel
theorem dX10_clause_133 : decode cX10_clause 133 = .ok (.istore_n 3, 1) := by decide +kernel
theorem dX10_clause_134 : decode cX10_clause 134 = .ok (.aload_n 0, 1) := by decide +kernel
theorem dX10_clause_135 : decode cX10_clause 135 = .ok (.getfield 128, 3) := by decide +kernel
theorem dX10_clause_138 : decode cX10_clause 138 = .ok (.iconst (-1), 1) := by decide +kernel
theorem dX10_clause_139 : decode cX10_clause 139 = .ok (.if_icmp .ne 22, 3) := by decide +kernel
theorem dX10_clause_142 : decode cX10_clause 142 = .ok (.aload_n 0, 1) := by decide +kernel
theorem dX10_clause_143 : decode cX10_clause 143 = .ok (.getfield 197, 3) := by decide +kernel
theorem dX10_clause_146 : decode cX10_clause 146 = .ok (.ifCond .ne 15, 3) := by decide +kernel
theorem dX10_clause_149 : decode cX10_clause 149 = .ok (.iload_n 1, 1) := by decide +kernel
theorem dX10_clause_150 : decode cX10_clause 150 = .ok (.aload_n 0, 1) := by decide +kernel
theorem dX10_clause_151 : decode cX10_clause 151 = .ok (.getfield 201, 3) := by decide +kernel
theorem dX10_clause_154 : decode cX10_clause 154 = .ok (.if_icmp .ne 7, 3) := by decide +kernel
theorem dX10_clause_157 : decode cX10_clause 157 = .ok (.iload_n 2, 1) := by decide +kernel
theorem dX10_clause_158 : decode cX10_clause 158 = .ok (.ifCond .ne 4, 3) := by decide +kernel
theorem dX10_clause_161 : decode cX10_clause 161 = .ok (.return_, 1) := by decide +kernel
theorem dX10_clause_162 : decode cX10_clause 162 = .ok (.aload_n 0, 1) := by decide +kernel
theorem dX10_clause_163 : decode cX10_clause 163 = .ok (.iconst 1, 1) := by decide +kernel
theorem dX10_clause_164 : decode cX10_clause 164 = .ok (.putfield 197, 3) := by decide +kernel
theorem dX10_clause_167 : decode cX10_clause 167 = .ok (.aload_n 0, 1) := by decide +kernel
theorem dX10_clause_168 : decode cX10_clause 168 = .ok (.iload_n 3, 1) := by decide +kernel
theorem dX10_clause_169 : decode cX10_clause 169 = .ok (.putfield 204, 3) := by decide +kernel
theorem dX10_clause_172 : decode cX10_clause 172 = .ok (.return_, 1) := by decide +kernel
theorem dX10_starts_0 : decode cX10_starts 0 = .ok (.aload_n 0, 1) := by decide +kernel
theorem dX10_starts_1 : decode cX10_starts 1 = .ok (.aload_n 1, 1) := by decide +kernel
theorem dX10_starts_2 : decode cX10_starts 2 = .ok (.putfield 23, 3) := by decide +kernel
theorem dX10_starts_5 : decode cX10_starts 5 = .ok (.aload_n 0, 1) := by decide +kernel
theorem dX10_starts_6 : decode cX10_starts 6 = .ok (.iload_n 2, 1) := by decide +kernel
theorem dX10_starts_7 : decode cX10_starts 7 = .ok (.putfield 125, 3) := by decide +kernel
theorem dX10_starts_10 : decode cX10_starts 10 = .ok (.aload_n 0, 1) := by decide +kernel
theorem dX10_starts_11 : decode cX10_starts 11 = .ok (.iload_n 3, 1) := by decide +kernel
theorem dX10_starts_12 : decode cX10_starts 12 = .ok (.putfield 122, 3) := by decide +kernel
theorem dX10_starts_15 : decode cX10_starts 15 = .ok (.aload_n 0, 1) := by decide +kernel
theorem dX10_starts_16 : decode cX10_starts 16 = .ok (.iconst 0, 1) := by decide +kernel
theorem dX10_starts_17 : decode cX10_starts 17 = .ok (.putfield 119, 3) := by decide +kernel
theorem dX10_starts_20 : decode cX10_starts 20 = .ok (.aload_n 0, 1) := by decide +kernel
theorem dX10_starts_21 : decode cX10_starts 21 = .ok (.iconst (-1), 1) := by decide +kernel
theorem dX10_starts_22 : decode cX10_starts 22 = .ok (.putfield 128, 3) := by decide +kernel
theorem dX10_starts_25 : decode cX10_starts 25 = .ok (.return_, 1) := by decide +kernel
theorem dX10_goThrough_0 : decode cX10_goThrough 0 = .ok (.aload_n 0, 1) := by decide +kernel
theorem dX10_goThrough_1 : decode cX10_goThrough 1 = .ok (.aload_n 1, 1) := by decide +kernel
theorem dX10_goThrough_2 : decode cX10_goThrough 2 = .ok (.iload_n 2, 1) := by decide +kernel
theorem dX10_goThrough_3 : decode cX10_goThrough 3 = .ok (.iload_n 3, 1) := by decide +kernel
theorem dX10_goThrough_4 : decode cX10_goThrough 4 = .ok (.invokevirtual 207, 3) := by decide +kernel
theorem dX10_goThrough_7 : decode cX10_goThrough 7 = .ok (.aload_n 0, 1) := by decide +kernel
theorem dX10_goThrough_8 : decode cX10_goThrough 8 = .ok (.bipush 121, 2) := by decide +kernel
theorem dX10_goThrough_10 : decode cX10_goThrough 10 = .ok (.putfield 201, 3) := by decide +kernel
theorem dX10_goThrough_13 : decode cX10_goThrough 13 = .ok (.aload_n 0, 1) := by decide +kernel
theorem dX10_goThrough_14 : decode cX10_goThrough 14 = .ok (.iconst 0, 1) := by decide +kernel
theorem dX10_goThrough_15 : decode cX10_goThrough 15 = .ok (.putfield 131, 3) := by decide +kernel
theorem dX10_goThrough_18 : decode cX10_goThrough 18 = .ok (.aload_n 0, 1) := by decide +kernel
theorem dX10_goThrough_19 : decode cX10_goThrough 19 = .ok (.iconst 0, 1) := by decide +kernel
theorem dX10_goThrough_20 : decode cX10_goThrough 20 = .ok (.putfield 197, 3) := by decide +kernel
theorem dX10_goThrough_23 : decode cX10_goThrough 23 = .ok (.aload_n 0, 1) := by decide +kernel
theorem dX10_goThrough_24 : decode cX10_goThrough 24 = .ok (.iconst 0, 1) := by decide +kernel
theorem dX10_goThrough_25 : decode cX10_goThrough 25 = .ok (.putfield 204, 3) := by decide +kernel
theorem dX10_goThrough_28 : decode cX10_goThrough 28 = .ok (.aload_n 0, 1) := by decide +kernel
theorem dX10_goThrough_29 : decode cX10_goThrough 29 = .ok (.invokevirtual 211, 3) := by decide +kernel
theorem dX10_goThrough_32 : decode cX10_goThrough 32 = .ok (.aload_n 0, 1) := by decide +kernel
theorem dX10_goThrough_33 : decode cX10_goThrough 33 = .ok (.getfield 128, 3) := by decide +kernel
theorem dX10_goThrough_36 : decode cX10_goThrough 36 = .ok (.iconst (-1), 1) := by decide +kernel
theorem dX10_goThrough_37 : decode cX10_goThrough 37 = .ok (.if_icmp .ne 29, 3) := by decide +kernel
theorem dX10_goThrough_40 : decode cX10_goThrough 40 = .ok (.aload_n 0, 1) := by decide +kernel
theorem dX10_goThrough_41 : decode cX10_goThrough 41 = .ok (.invokevirtual 138, 3) := by decide +kernel
theorem dX10_goThrough_44 : decode cX10_goThrough 44 = .ok (.bipush 59, 2) := by decide +kernel
theorem dX10_goThrough_46 : decode cX10_goThrough 46 = .ok (.if_icmp .ne 20, 3) := by decide +kernel
theorem dX10_goThrough_49 : decode cX10_goThrough 49 = .ok (.aload_n 0, 1) := by decide +kernel
theorem dX10_goThrough_50 : decode cX10_goThrough 50 = .ok (.dup, 1) := by decide +kernel
theorem dX10_goThrough_51 : decode cX10_goThrough 51 = .ok (.getfield 119, 3) := by decide +kernel
theorem dX10_goThrough_54 : decode cX10_goThrough 54 = .ok (.iconst 1, 1) := by decide +kernel
theorem dX10_goThrough_55 : decode cX10_goThrough 55 = .ok (.iadd, 1) := by decide +kernel
theorem dX10_goThrough_56 : decode cX10_goThrough 56 = .ok (.putfield 119, 3) := by decide +kernel
theorem dX10_goThrough_59 : decode cX10_goThrough 59 = .ok (.aload_n 0, 1) := by decide +kernel
theorem dX10_goThrough_60 : decode cX10_goThrough 60 = .ok (.invokevirtual 211, 3) := by decide +kernel
theorem dX10_goThrough_63 : decode cX10_goThrough 63 = .ok (.goto (-31), 3) := by decide +kernel
theorem dX10_goThrough_66 : decode cX10_goThrough 66 = .ok (.aload_n 0, 1) := by decide +kernel
theorem dX10_goThrough_67 : decode cX10_goThrough 67 = .ok (.getfield 128, 3) := by decide +kernel
theorem dX10_goThrough_70 : decode cX10_goThrough 70 = .ok (.iconst (-1), 1) := by decide +kernel
theorem dX10_goThrough_71 : decode cX10_goThrough 71 = .ok (.if_icmp .ne 16, 3) := by decide +kernel
theorem dX10_goThrough_74 : decode cX10_goThrough 74 = .ok (.aload_n 0, 1) := by decide +kernel
theorem dX10_goThrough_75 : decode cX10_goThrough 75 = .ok (.invokevirtual 138, 3) := by decide +kernel
theorem dX10_goThrough_78 : decode cX10_goThrough 78 = .ok (.iconst (-1), 1) := by decide +kernel
theorem dX10_goThrough_79 : decode cX10_goThrough 79 = .ok (.if_icmp .eq 8, 3) := by decide +kernel
theorem dX10_goThrough_82 : decode cX10_goThrough 82 = .ok (.aload_n 0, 1) := by decide +kernel
theorem dX10_goThrough_83 : decode cX10_goThrough 83 = .ok (.invokevirtual 134, 3) := by decide +kernel
theorem dX10_goThrough_86 : decode cX10_goThrough 86 = .ok (.pop, 1) := by decide +kernel
theorem dX10_goThrough_87 : decode cX10_goThrough 87 = .ok (.return_, 1) := by decide +kernel
theorem dX10_worthOf_0 : decode cX10_worthOf 0 = .ok (.lconst 1, 1) := by decide +kernel
theorem dX10_worthOf_1 : decode cX10_worthOf 1 = .ok (.aload_n 0, 1) := by decide +kernel
theorem dX10_worthOf_2 : decode cX10_worthOf 2 = .ok (.getfield 67, 3) := by decide +kernel
theorem dX10_worthOf_5 : decode cX10_worthOf 5 = .ok (.i2l, 1) := by decide +kernel
theorem dX10_worthOf_6 : decode cX10_worthOf 6 = .ok (.ladd, 1) := by decide +kernel
theorem dX10_worthOf_7 : decode cX10_worthOf 7 = .ok (.lstore 7, 2) := by decide +kernel
theorem dX10_worthOf_9 : decode cX10_worthOf 9 = .ok (.ldc2_w 322, 3) := by decide +kernel
theorem dX10_worthOf_12 : decode cX10_worthOf 12 = .ok (.lload 7, 2) := by decide +kernel
theorem dX10_worthOf_14 : decode cX10_worthOf 14 = .ok (.lmul, 1) := by decide +kernel
theorem dX10_worthOf_15 : decode cX10_worthOf 15 = .ok (.iload_n 1, 1) := by decide +kernel
theorem dX10_worthOf_16 : decode cX10_worthOf 16 = .ok (.i2l, 1) := by decide +kernel
theorem dX10_worthOf_17 : decode cX10_worthOf 17 = .ok (.ladd, 1) := by decide +kernel
theorem dX10_worthOf_18 : decode cX10_worthOf 18 = .ok (.lstore 7, 2) := by decide +kernel
theorem dX10_worthOf_20 : decode cX10_worthOf 20 = .ok (.ldc2_w 322, 3) := by decide +kernel
theorem dX10_worthOf_23 : decode cX10_worthOf 23 = .ok (.lload 7, 2) := by decide +kernel
theorem dX10_worthOf_25 : decode cX10_worthOf 25 = .ok (.lmul, 1) := by decide +kernel
theorem dX10_worthOf_26 : decode cX10_worthOf 26 = .ok (.iload_n 2, 1) := by decide +kernel
theorem dX10_worthOf_27 : decode cX10_worthOf 27 = .ok (.i2l, 1) := by decide +kernel
theorem dX10_worthOf_28 : decode cX10_worthOf 28 = .ok (.ladd, 1) := by decide +kernel
theorem dX10_worthOf_29 : decode cX10_worthOf 29 = .ok (.lstore 7, 2) := by decide +kernel
theorem dX10_worthOf_31 : decode cX10_worthOf 31 = .ok (.ldc2_w 322, 3) := by decide +kernel
theorem dX10_worthOf_34 : decode cX10_worthOf 34 = .ok (.lload 7, 2) := by decide +kernel
theorem dX10_worthOf_36 : decode cX10_worthOf 36 = .ok (.lmul, 1) := by decide +kernel
theorem dX10_worthOf_37 : decode cX10_worthOf 37 = .ok (.iload_n 3, 1) := by decide +kernel
theorem dX10_worthOf_38 : decode cX10_worthOf 38 = .ok (.i2l, 1) := by decide +kernel
theorem dX10_worthOf_39 : decode cX10_worthOf 39 = .ok (.ladd, 1) := by decide +kernel
theorem dX10_worthOf_40 : decode cX10_worthOf 40 = .ok (.lstore 7, 2) := by decide +kernel
theorem dX10_worthOf_42 : decode cX10_worthOf 42 = .ok (.ldc2_w 322, 3) := by decide +kernel
theorem dX10_worthOf_45 : decode cX10_worthOf 45 = .ok (.lload 7, 2) := by decide +kernel
theorem dX10_worthOf_47 : decode cX10_worthOf 47 = .ok (.lmul, 1) := by decide +kernel
theorem dX10_worthOf_48 : decode cX10_worthOf 48 = .ok (.iload 4, 2) := by decide +kernel
theorem dX10_worthOf_50 : decode cX10_worthOf 50 = .ok (.i2l, 1) := by decide +kernel
theorem dX10_worthOf_51 : decode cX10_worthOf 51 = .ok (.ladd, 1) := by decide +kernel
theorem dX10_worthOf_52 : decode cX10_worthOf 52 = .ok (.lstore 7, 2) := by decide +kernel
theorem dX10_worthOf_54 : decode cX10_worthOf 54 = .ok (.ldc2_w 322, 3) := by decide +kernel
theorem dX10_worthOf_57 : decode cX10_worthOf 57 = .ok (.lload 7, 2) := by decide +kernel
theorem dX10_worthOf_59 : decode cX10_worthOf 59 = .ok (.lmul, 1) := by decide +kernel
theorem dX10_worthOf_60 : decode cX10_worthOf 60 = .ok (.iload 5, 2) := by decide +kernel
theorem dX10_worthOf_62 : decode cX10_worthOf 62 = .ok (.i2l, 1) := by decide +kernel
theorem dX10_worthOf_63 : decode cX10_worthOf 63 = .ok (.ladd, 1) := by decide +kernel
theorem dX10_worthOf_64 : decode cX10_worthOf 64 = .ok (.lstore 7, 2) := by decide +kernel
theorem dX10_worthOf_66 : decode cX10_worthOf 66 = .ok (.ldc2_w 324, 3) := by decide +kernel
theorem dX10_worthOf_69 : decode cX10_worthOf 69 = .ok (.lload 7, 2) := by decide +kernel
theorem dX10_worthOf_71 : decode cX10_worthOf 71 = .ok (.lmul, 1) := by decide +kernel
theorem dX10_worthOf_72 : decode cX10_worthOf 72 = .ok (.iload 6, 2) := by decide +kernel
theorem dX10_worthOf_74 : decode cX10_worthOf 74 = .ok (.i2l, 1) := by decide +kernel
theorem dX10_worthOf_75 : decode cX10_worthOf 75 = .ok (.ladd, 1) := by decide +kernel
theorem dX10_worthOf_76 : decode cX10_worthOf 76 = .ok (.lstore 7, 2) := by decide +kernel
theorem dX10_worthOf_78 : decode cX10_worthOf 78 = .ok (.lload 7, 2) := by decide +kernel
theorem dX10_worthOf_80 : decode cX10_worthOf 80 = .ok (.ldc2_w 326, 3) := by decide +kernel
theorem dX10_worthOf_83 : decode cX10_worthOf 83 = .ok (.lrem, 1) := by decide +kernel
theorem dX10_worthOf_84 : decode cX10_worthOf 84 = .ok (.l2i, 1) := by decide +kernel
theorem dX10_worthOf_85 : decode cX10_worthOf 85 = .ok (.istore 9, 2) := by decide +kernel
theorem dX10_worthOf_87 : decode cX10_worthOf 87 = .ok (.aload_n 0, 1) := by decide +kernel
theorem dX10_worthOf_88 : decode cX10_worthOf 88 = .ok (.getfield 74, 3) := by decide +kernel
theorem dX10_worthOf_91 : decode cX10_worthOf 91 = .ok (.iload 9, 2) := by decide +kernel
theorem dX10_worthOf_93 : decode cX10_worthOf 93 = .ok (.laload, 1) := by decide +kernel
theorem dX10_worthOf_94 : decode cX10_worthOf 94 = .ok (.lload 7, 2) := by decide +kernel
theorem dX10_worthOf_96 : decode cX10_worthOf 96 = .ok (.lcmp, 1) := by decide +kernel
theorem dX10_worthOf_97 : decode cX10_worthOf 97 = .ok (.ifCond .ne 11, 3) := by decide +kernel
theorem dX10_worthOf_100 : decode cX10_worthOf 100 = .ok (.aload_n 0, 1) := by decide +kernel
theorem dX10_worthOf_101 : decode cX10_worthOf 101 = .ok (.getfield 78, 3) := by decide +kernel
theorem dX10_worthOf_104 : decode cX10_worthOf 104 = .ok (.iload 9, 2) := by decide +kernel
theorem dX10_worthOf_106 : decode cX10_worthOf 106 = .ok (.iaload, 1) := by decide +kernel
theorem dX10_worthOf_107 : decode cX10_worthOf 107 = .ok (.ireturn, 1) := by decide +kernel
theorem dX10_worthOf_108 : decode cX10_worthOf 108 = .ok (.aload_n 0, 1) := by decide +kernel
theorem dX10_worthOf_109 : decode cX10_worthOf 109 = .ok (.getfield 20, 3) := by decide +kernel
theorem dX10_worthOf_112 : decode cX10_worthOf 112 = .ok (.bipush 103, 2) := by decide +kernel
theorem dX10_worthOf_114 : decode cX10_worthOf 114 = .ok (.iload_n 1, 1) := by decide +kernel
theorem dX10_worthOf_115 : decode cX10_worthOf 115 = .ok (.iastore, 1) := by decide +kernel
theorem dX10_worthOf_116 : decode cX10_worthOf 116 = .ok (.aload_n 0, 1) := by decide +kernel
theorem dX10_worthOf_117 : decode cX10_worthOf 117 = .ok (.getfield 20, 3) := by decide +kernel
theorem dX10_worthOf_120 : decode cX10_worthOf 120 = .ok (.bipush 104, 2) := by decide +kernel
theorem dX10_worthOf_122 : decode cX10_worthOf 122 = .ok (.iload_n 2, 1) := by decide +kernel
theorem dX10_worthOf_123 : decode cX10_worthOf 123 = .ok (.iastore, 1) := by decide +kernel
theorem dX10_worthOf_124 : decode cX10_worthOf 124 = .ok (.aload_n 0, 1) := by decide +kernel
theorem dX10_worthOf_125 : decode cX10_worthOf 125 = .ok (.getfield 20, 3) := by decide +kernel
theorem dX10_worthOf_128 : decode cX10_worthOf 128 = .ok (.bipush 108, 2) := by decide +kernel
theorem dX10_worthOf_130 : decode cX10_worthOf 130 = .ok (.iload_n 3, 1) := by decide +kernel
theorem dX10_worthOf_131 : decode cX10_worthOf 131 = .ok (.iastore, 1) := by decide +kernel
theorem dX10_worthOf_132 : decode cX10_worthOf 132 = .ok (.aload_n 0, 1) := by decide +kernel
theorem dX10_worthOf_133 : decode cX10_worthOf 133 = .ok (.getfield 20, 3) := by decide +kernel
theorem dX10_worthOf_136 : decode cX10_worthOf 136 = .ok (.bipush 98, 2) := by decide +kernel
theorem dX10_worthOf_138 : decode cX10_worthOf 138 = .ok (.iload 4, 2) := by decide +kernel
theorem dX10_worthOf_140 : decode cX10_worthOf 140 = .ok (.iastore, 1) := by decide +kernel
theorem dX10_worthOf_141 : decode cX10_worthOf 141 = .ok (.aload_n 0, 1) := by decide +kernel
theorem dX10_worthOf_142 : decode cX10_worthOf 142 = .ok (.getfield 20, 3) := by decide +kernel
theorem dX10_worthOf_145 : decode cX10_worthOf 145 = .ok (.bipush 110, 2) := by decide +kernel
theorem dX10_worthOf_147 : decode cX10_worthOf 147 = .ok (.iload 5, 2) := by decide +kernel
theorem dX10_worthOf_149 : decode cX10_worthOf 149 = .ok (.iastore, 1) := by decide +kernel
theorem dX10_worthOf_150 : decode cX10_worthOf 150 = .ok (.aload_n 0, 1) := by decide +kernel
theorem dX10_worthOf_151 : decode cX10_worthOf 151 = .ok (.getfield 20, 3) := by decide +kernel
theorem dX10_worthOf_154 : decode cX10_worthOf 154 = .ok (.bipush 100, 2) := by decide +kernel
theorem dX10_worthOf_156 : decode cX10_worthOf 156 = .ok (.iload 6, 2) := by decide +kernel
theorem dX10_worthOf_158 : decode cX10_worthOf 158 = .ok (.iastore, 1) := by decide +kernel
theorem dX10_worthOf_159 : decode cX10_worthOf 159 = .ok (.aload_n 0, 1) := by decide +kernel
theorem dX10_worthOf_160 : decode cX10_worthOf 160 = .ok (.aload_n 0, 1) := by decide +kernel
theorem dX10_worthOf_161 : decode cX10_worthOf 161 = .ok (.getfield 13, 3) := by decide +kernel
theorem dX10_worthOf_164 : decode cX10_worthOf 164 = .ok (.sipush 240, 3) := by decide +kernel
theorem dX10_worthOf_167 : decode cX10_worthOf 167 = .ok (.aload_n 0, 1) := by decide +kernel
theorem dX10_worthOf_168 : decode cX10_worthOf 168 = .ok (.getfield 67, 3) := by decide +kernel
theorem dX10_worthOf_171 : decode cX10_worthOf 171 = .ok (.imul, 1) := by decide +kernel
theorem dX10_worthOf_172 : decode cX10_worthOf 172 = .ok (.aload_n 0, 1) := by decide +kernel
theorem dX10_worthOf_173 : decode cX10_worthOf 173 = .ok (.getfield 16, 3) := by decide +kernel
theorem dX10_worthOf_176 : decode cX10_worthOf 176 = .ok (.aload_n 0, 1) := by decide +kernel
theorem dX10_worthOf_177 : decode cX10_worthOf 177 = .ok (.getfield 67, 3) := by decide +kernel
theorem dX10_worthOf_180 : decode cX10_worthOf 180 = .ok (.iaload, 1) := by decide +kernel
theorem dX10_worthOf_181 : decode cX10_worthOf 181 = .ok (.invokevirtual 280, 3) := by decide +kernel
theorem dX10_worthOf_184 : decode cX10_worthOf 184 = .ok (.aload_n 0, 1) := by decide +kernel
theorem dX10_worthOf_185 : decode cX10_worthOf 185 = .ok (.getfield 74, 3) := by decide +kernel
theorem dX10_worthOf_188 : decode cX10_worthOf 188 = .ok (.iload 9, 2) := by decide +kernel
theorem dX10_worthOf_190 : decode cX10_worthOf 190 = .ok (.lload 7, 2) := by decide +kernel
theorem dX10_worthOf_192 : decode cX10_worthOf 192 = .ok (.lastore, 1) := by decide +kernel
theorem dX10_worthOf_193 : decode cX10_worthOf 193 = .ok (.aload_n 0, 1) := by decide +kernel
theorem dX10_worthOf_194 : decode cX10_worthOf 194 = .ok (.getfield 78, 3) := by decide +kernel
theorem dX10_worthOf_197 : decode cX10_worthOf 197 = .ok (.iload 9, 2) := by decide +kernel
theorem dX10_worthOf_199 : decode cX10_worthOf 199 = .ok (.aload_n 0, 1) := by decide +kernel
theorem dX10_worthOf_200 : decode cX10_worthOf 200 = .ok (.getfield 204, 3) := by decide +kernel
theorem dX10_worthOf_203 : decode cX10_worthOf 203 = .ok (.iastore, 1) := by decide +kernel
theorem dX10_worthOf_204 : decode cX10_worthOf 204 = .ok (.aload_n 0, 1) := by decide +kernel
theorem dX10_worthOf_205 : decode cX10_worthOf 205 = .ok (.getfield 204, 3) := by decide +kernel
theorem dX10_worthOf_208 : decode cX10_worthOf 208 = .ok (.ireturn, 1) := by decide +kernel
theorem dX10_evenings_0 : decode cX10_evenings 0 = .ok (.iconst 2, 1) := by decide +kernel
theorem dX10_evenings_1 : decode cX10_evenings 1 = .ok (.iload_n 1, 1) := by decide +kernel
theorem dX10_evenings_2 : decode cX10_evenings 2 = .ok (.imul, 1) := by decide +kernel
theorem dX10_evenings_3 : decode cX10_evenings 3 = .ok (.iload_n 2, 1) := by decide +kernel
theorem dX10_evenings_4 : decode cX10_evenings 4 = .ok (.iadd, 1) := by decide +kernel
theorem dX10_evenings_5 : decode cX10_evenings 5 = .ok (.iload_n 3, 1) := by decide +kernel
theorem dX10_evenings_6 : decode cX10_evenings 6 = .ok (.iconst 2, 1) := by decide +kernel
theorem dX10_evenings_7 : decode cX10_evenings 7 = .ok (.idiv, 1) := by decide +kernel
theorem dX10_evenings_8 : decode cX10_evenings 8 = .ok (.isub, 1) := by decide +kernel
theorem dX10_evenings_9 : decode cX10_evenings 9 = .ok (.istore 7, 2) := by decide +kernel
theorem dX10_evenings_11 : decode cX10_evenings 11 = .ok (.aload_n 0, 1) := by decide +kernel
theorem dX10_evenings_12 : decode cX10_evenings 12 = .ok (.getfield 67, 3) := by decide +kernel
theorem dX10_evenings_15 : decode cX10_evenings 15 = .ok (.iconst (-1), 1) := by decide +kernel
theorem dX10_evenings_16 : decode cX10_evenings 16 = .ok (.if_icmp .eq 18, 3) := by decide +kernel
theorem dX10_evenings_19 : decode cX10_evenings 19 = .ok (.aload_n 0, 1) := by decide +kernel
theorem dX10_evenings_20 : decode cX10_evenings 20 = .ok (.iload_n 1, 1) := by decide +kernel
theorem dX10_evenings_21 : decode cX10_evenings 21 = .ok (.iload_n 2, 1) := by decide +kernel
theorem dX10_evenings_22 : decode cX10_evenings 22 = .ok (.iload_n 3, 1) := by decide +kernel
theorem dX10_evenings_23 : decode cX10_evenings 23 = .ok (.iload 4, 2) := by decide +kernel
theorem dX10_evenings_25 : decode cX10_evenings 25 = .ok (.iload 5, 2) := by decide +kernel
theorem dX10_evenings_27 : decode cX10_evenings 27 = .ok (.iload 6, 2) := by decide +kernel
theorem dX10_evenings_29 : decode cX10_evenings 29 = .ok (.invokevirtual 328, 3) := by decide +kernel
theorem dX10_evenings_32 : decode cX10_evenings 32 = .ok (.istore 7, 2) := by decide +kernel
theorem dX10_evenings_34 : decode cX10_evenings 34 = .ok (.iconst 1, 1) := by decide +kernel
theorem dX10_evenings_35 : decode cX10_evenings 35 = .ok (.aload_n 0, 1) := by decide +kernel
theorem dX10_evenings_36 : decode cX10_evenings 36 = .ok (.getfield 37, 3) := by decide +kernel
theorem dX10_evenings_39 : decode cX10_evenings 39 = .ok (.iconst 0, 1) := by decide +kernel
theorem dX10_evenings_40 : decode cX10_evenings 40 = .ok (.iaload, 1) := by decide +kernel
theorem dX10_evenings_41 : decode cX10_evenings 41 = .ok (.iload 7, 2) := by decide +kernel
theorem dX10_evenings_43 : decode cX10_evenings 43 = .ok (.invokestatic 316, 3) := by decide +kernel
theorem dX10_evenings_46 : decode cX10_evenings 46 = .ok (.invokestatic 332, 3) := by decide +kernel
theorem dX10_evenings_49 : decode cX10_evenings 49 = .ok (.ireturn, 1) := by decide +kernel
theorem dX10_worthTold_0 : decode cX10_worthTold 0 = .ok (.aload_n 0, 1) := by decide +kernel
theorem dX10_worthTold_1 : decode cX10_worthTold 1 = .ok (.getfield 49, 3) := by decide +kernel
theorem dX10_worthTold_4 : decode cX10_worthTold 4 = .ok (.iconst 3, 1) := by decide +kernel
theorem dX10_worthTold_5 : decode cX10_worthTold 5 = .ok (.iload_n 1, 1) := by decide +kernel
theorem dX10_worthTold_6 : decode cX10_worthTold 6 = .ok (.imul, 1) := by decide +kernel
theorem dX10_worthTold_7 : decode cX10_worthTold 7 = .ok (.iaload, 1) := by decide +kernel
theorem dX10_worthTold_8 : decode cX10_worthTold 8 = .ok (.istore_n 3, 1) := by decide +kernel
theorem dX10_worthTold_9 : decode cX10_worthTold 9 = .ok (.aload_n 0, 1) := by decide +kernel
theorem dX10_worthTold_10 : decode cX10_worthTold 10 = .ok (.getfield 49, 3) := by decide +kernel
theorem dX10_worthTold_13 : decode cX10_worthTold 13 = .ok (.iconst 3, 1) := by decide +kernel
theorem dX10_worthTold_14 : decode cX10_worthTold 14 = .ok (.iload_n 1, 1) := by decide +kernel
theorem dX10_worthTold_15 : decode cX10_worthTold 15 = .ok (.imul, 1) := by decide +kernel
theorem dX10_worthTold_16 : decode cX10_worthTold 16 = .ok (.iconst 1, 1) := by decide +kernel
theorem dX10_worthTold_17 : decode cX10_worthTold 17 = .ok (.iadd, 1) := by decide +kernel
theorem dX10_worthTold_18 : decode cX10_worthTold 18 = .ok (.iaload, 1) := by decide +kernel
theorem dX10_worthTold_19 : decode cX10_worthTold 19 = .ok (.istore 4, 2) := by decide +kernel
theorem dX10_worthTold_21 : decode cX10_worthTold 21 = .ok (.aload_n 0, 1) := by decide +kernel
theorem dX10_worthTold_22 : decode cX10_worthTold 22 = .ok (.iload_n 2, 1) := by decide +kernel
theorem dX10_worthTold_23 : decode cX10_worthTold 23 = .ok (.aload_n 0, 1) := by decide +kernel
theorem dX10_worthTold_24 : decode cX10_worthTold 24 = .ok (.getfield 43, 3) := by decide +kernel
theorem dX10_worthTold_27 : decode cX10_worthTold 27 = .ok (.iconst 3, 1) := by decide +kernel
theorem dX10_worthTold_28 : decode cX10_worthTold 28 = .ok (.iload_n 3, 1) := by decide +kernel
theorem dX10_worthTold_29 : decode cX10_worthTold 29 = .ok (.imul, 1) := by decide +kernel
theorem dX10_worthTold_30 : decode cX10_worthTold 30 = .ok (.iconst 2, 1) := by decide +kernel
theorem dX10_worthTold_31 : decode cX10_worthTold 31 = .ok (.iadd, 1) := by decide +kernel
theorem dX10_worthTold_32 : decode cX10_worthTold 32 = .ok (.iaload, 1) := by decide +kernel
theorem dX10_worthTold_33 : decode cX10_worthTold 33 = .ok (.aload_n 0, 1) := by decide +kernel
theorem dX10_worthTold_34 : decode cX10_worthTold 34 = .ok (.getfield 43, 3) := by decide +kernel
theorem dX10_worthTold_37 : decode cX10_worthTold 37 = .ok (.iconst 3, 1) := by decide +kernel
theorem dX10_worthTold_38 : decode cX10_worthTold 38 = .ok (.iload 4, 2) := by decide +kernel
theorem dX10_worthTold_40 : decode cX10_worthTold 40 = .ok (.imul, 1) := by decide +kernel
theorem dX10_worthTold_41 : decode cX10_worthTold 41 = .ok (.iaload, 1) := by decide +kernel
theorem dX10_worthTold_42 : decode cX10_worthTold 42 = .ok (.aload_n 0, 1) := by decide +kernel
theorem dX10_worthTold_43 : decode cX10_worthTold 43 = .ok (.getfield 43, 3) := by decide +kernel
theorem dX10_worthTold_46 : decode cX10_worthTold 46 = .ok (.iconst 3, 1) := by decide +kernel
theorem dX10_worthTold_47 : decode cX10_worthTold 47 = .ok (.iload 4, 2) := by decide +kernel
theorem dX10_worthTold_49 : decode cX10_worthTold 49 = .ok (.imul, 1) := by decide +kernel
theorem dX10_worthTold_50 : decode cX10_worthTold 50 = .ok (.iconst 1, 1) := by decide +kernel
theorem dX10_worthTold_51 : decode cX10_worthTold 51 = .ok (.iadd, 1) := by decide +kernel
theorem dX10_worthTold_52 : decode cX10_worthTold 52 = .ok (.iaload, 1) := by decide +kernel
theorem dX10_worthTold_53 : decode cX10_worthTold 53 = .ok (.iconst 0, 1) := by decide +kernel
theorem dX10_worthTold_54 : decode cX10_worthTold 54 = .ok (.iconst 0, 1) := by decide +kernel
theorem dX10_worthTold_55 : decode cX10_worthTold 55 = .ok (.invokevirtual 341, 3) := by decide +kernel
theorem dX10_worthTold_58 : decode cX10_worthTold 58 = .ok (.ireturn, 1) := by decide +kernel
theorem dX10_isGrave_0 : decode cX10_isGrave 0 = .ok (.iconst 0, 1) := by decide +kernel
theorem dX10_isGrave_1 : decode cX10_isGrave 1 = .ok (.istore_n 3, 1) := by decide +kernel
theorem dX10_isGrave_2 : decode cX10_isGrave 2 = .ok (.iload_n 3, 1) := by decide +kernel
theorem dX10_isGrave_3 : decode cX10_isGrave 3 = .ok (.aload_n 0, 1) := by decide +kernel
theorem dX10_isGrave_4 : decode cX10_isGrave 4 = .ok (.getfield 300, 3) := by decide +kernel
theorem dX10_isGrave_7 : decode cX10_isGrave 7 = .ok (.if_icmp .ge 69, 3) := by decide +kernel
theorem dX10_isGrave_10 : decode cX10_isGrave 10 = .ok (.aload_n 0, 1) := by decide +kernel
theorem dX10_isGrave_11 : decode cX10_isGrave 11 = .ok (.getfield 87, 3) := by decide +kernel
theorem dX10_isGrave_14 : decode cX10_isGrave 14 = .ok (.iconst 3, 1) := by decide +kernel
theorem dX10_isGrave_15 : decode cX10_isGrave 15 = .ok (.iload_n 3, 1) := by decide +kernel
theorem dX10_isGrave_16 : decode cX10_isGrave 16 = .ok (.imul, 1) := by decide +kernel
theorem dX10_isGrave_17 : decode cX10_isGrave 17 = .ok (.iaload, 1) := by decide +kernel
theorem dX10_isGrave_18 : decode cX10_isGrave 18 = .ok (.iload_n 1, 1) := by decide +kernel
theorem dX10_isGrave_19 : decode cX10_isGrave 19 = .ok (.if_icmp .ne 51, 3) := by decide +kernel
theorem dX10_isGrave_22 : decode cX10_isGrave 22 = .ok (.aload_n 0, 1) := by decide +kernel
theorem dX10_isGrave_23 : decode cX10_isGrave 23 = .ok (.iload_n 1, 1) := by decide +kernel
theorem dX10_isGrave_24 : decode cX10_isGrave 24 = .ok (.iload_n 2, 1) := by decide +kernel
theorem dX10_isGrave_25 : decode cX10_isGrave 25 = .ok (.invokevirtual 478, 3) := by decide +kernel
theorem dX10_isGrave_28 : decode cX10_isGrave 28 = .ok (.aload_n 0, 1) := by decide +kernel
theorem dX10_isGrave_29 : decode cX10_isGrave 29 = .ok (.getfield 87, 3) := by decide +kernel
theorem dX10_isGrave_32 : decode cX10_isGrave 32 = .ok (.iconst 3, 1) := by decide +kernel
theorem dX10_isGrave_33 : decode cX10_isGrave 33 = .ok (.iload_n 3, 1) := by decide +kernel
theorem dX10_isGrave_34 : decode cX10_isGrave 34 = .ok (.imul, 1) := by decide +kernel
theorem dX10_isGrave_35 : decode cX10_isGrave 35 = .ok (.iconst 1, 1) := by decide +kernel
theorem dX10_isGrave_36 : decode cX10_isGrave 36 = .ok (.iadd, 1) := by decide +kernel
theorem dX10_isGrave_37 : decode cX10_isGrave 37 = .ok (.iaload, 1) := by decide +kernel
theorem dX10_isGrave_38 : decode cX10_isGrave 38 = .ok (.if_icmp .lt 7, 3) := by decide +kernel
theorem dX10_isGrave_41 : decode cX10_isGrave 41 = .ok (.iconst 1, 1) := by decide +kernel
theorem dX10_isGrave_42 : decode cX10_isGrave 42 = .ok (.goto 4, 3) := by decide +kernel
theorem dX10_isGrave_45 : decode cX10_isGrave 45 = .ok (.iconst 0, 1) := by decide +kernel
theorem dX10_isGrave_46 : decode cX10_isGrave 46 = .ok (.aload_n 0, 1) := by decide +kernel
theorem dX10_isGrave_47 : decode cX10_isGrave 47 = .ok (.getfield 87, 3) := by decide +kernel
theorem dX10_isGrave_50 : decode cX10_isGrave 50 = .ok (.iconst 3, 1) := by decide +kernel
theorem dX10_isGrave_51 : decode cX10_isGrave 51 = .ok (.iload_n 3, 1) := by decide +kernel
theorem dX10_isGrave_52 : decode cX10_isGrave 52 = .ok (.imul, 1) := by decide +kernel
theorem dX10_isGrave_53 : decode cX10_isGrave 53 = .ok (.iconst 2, 1) := by decide +kernel
theorem dX10_isGrave_54 : decode cX10_isGrave 54 = .ok (.iadd, 1) := by decide +kernel
theorem dX10_isGrave_55 : decode cX10_isGrave 55 = .ok (.iaload, 1) := by decide +kernel
theorem dX10_isGrave_56 : decode cX10_isGrave 56 = .ok (.iconst 1, 1) := by decide +kernel
theorem dX10_isGrave_57 : decode cX10_isGrave 57 = .ok (.if_icmp .ne 7, 3) := by decide +kernel
theorem dX10_isGrave_60 : decode cX10_isGrave 60 = .ok (.iconst 1, 1) := by decide +kernel
theorem dX10_isGrave_61 : decode cX10_isGrave 61 = .ok (.goto 4, 3) := by decide +kernel
theorem dX10_isGrave_64 : decode cX10_isGrave 64 = .ok (.iconst 0, 1) := by decide +kernel
theorem dX10_isGrave_65 : decode cX10_isGrave 65 = .ok (.if_icmp .eq 5, 3) := by decide +kernel
theorem dX10_isGrave_68 : decode cX10_isGrave 68 = .ok (.iconst 0, 1) := by decide +kernel
theorem dX10_isGrave_69 : decode cX10_isGrave 69 = .ok (.ireturn, 1) := by decide +kernel
theorem dX10_isGrave_70 : decode cX10_isGrave 70 = .ok (.iinc 3 1, 3) := by decide +kernel
theorem dX10_isGrave_73 : decode cX10_isGrave 73 = .ok (.goto (-71), 3) := by decide +kernel
theorem dX10_isGrave_76 : decode cX10_isGrave 76 = .ok (.iconst 1, 1) := by decide +kernel
theorem dX10_isGrave_77 : decode cX10_isGrave 77 = .ok (.ireturn, 1) := by decide +kernel
theorem dX10_isWrong_0 : decode cX10_isWrong 0 = .ok (.iload_n 1, 1) := by decide +kernel
theorem dX10_isWrong_1 : decode cX10_isWrong 1 = .ok (.ifCond .lt 15, 3) := by decide +kernel
theorem dX10_isWrong_4 : decode cX10_isWrong 4 = .ok (.iload_n 1, 1) := by decide +kernel
theorem dX10_isWrong_5 : decode cX10_isWrong 5 = .ok (.aload_n 0, 1) := by decide +kernel
theorem dX10_isWrong_6 : decode cX10_isWrong 6 = .ok (.getfield 297, 3) := by decide +kernel
theorem dX10_isWrong_9 : decode cX10_isWrong 9 = .ok (.if_icmp .ge 7, 3) := by decide +kernel
theorem dX10_isWrong_12 : decode cX10_isWrong 12 = .ok (.iconst 1, 1) := by decide +kernel
theorem dX10_isWrong_13 : decode cX10_isWrong 13 = .ok (.goto 4, 3) := by decide +kernel
theorem dX10_isWrong_16 : decode cX10_isWrong 16 = .ok (.iconst 0, 1) := by decide +kernel
theorem dX10_isWrong_17 : decode cX10_isWrong 17 = .ok (.ireturn, 1) := by decide +kernel
theorem dX10_ask_0 : decode cX10_ask 0 = .ok (.aload_n 0, 1) := by decide +kernel
theorem dX10_ask_1 : decode cX10_ask 1 = .ok (.iconst 0, 1) := by decide +kernel
theorem dX10_ask_2 : decode cX10_ask 2 = .ok (.putfield 96, 3) := by decide +kernel
theorem dX10_ask_5 : decode cX10_ask 5 = .ok (.aload_n 0, 1) := by decide +kernel
theorem dX10_ask_6 : decode cX10_ask 6 = .ok (.iload_n 1, 1) := by decide +kernel
theorem dX10_ask_7 : decode cX10_ask 7 = .ok (.invokevirtual 369, 3) := by decide +kernel
theorem dX10_ask_10 : decode cX10_ask 10 = .ok (.ifCond .ne 5, 3) := by decide +kernel
theorem dX10_ask_13 : decode cX10_ask 13 = .ok (.iconst (-1), 1) := by decide +kernel
theorem dX10_ask_14 : decode cX10_ask 14 = .ok (.ireturn, 1) := by decide +kernel
theorem dX10_ask_15 : decode cX10_ask 15 = .ok (.iconst (-1), 1) := by decide +kernel
theorem dX10_ask_16 : decode cX10_ask 16 = .ok (.istore_n 2, 1) := by decide +kernel
theorem dX10_ask_17 : decode cX10_ask 17 = .ok (.iconst 0, 1) := by decide +kernel
theorem dX10_ask_18 : decode cX10_ask 18 = .ok (.istore_n 3, 1) := by decide +kernel
theorem dX10_ask_19 : decode cX10_ask 19 = .ok (.iconst 1, 1) := by decide +kernel
theorem dX10_ask_20 : decode cX10_ask 20 = .ok (.istore 4, 2) := by decide +kernel
theorem dX10_ask_22 : decode cX10_ask 22 = .ok (.iload 4, 2) := by decide +kernel
theorem dX10_ask_24 : decode cX10_ask 24 = .ok (.bipush 30, 2) := by decide +kernel
theorem dX10_ask_26 : decode cX10_ask 26 = .ok (.if_icmp .gt 103, 3) := by decide +kernel
theorem dX10_ask_29 : decode cX10_ask 29 = .ok (.iconst 0, 1) := by decide +kernel
theorem dX10_ask_30 : decode cX10_ask 30 = .ok (.istore 5, 2) := by decide +kernel
theorem dX10_ask_32 : decode cX10_ask 32 = .ok (.iconst 0, 1) := by decide +kernel
theorem dX10_ask_33 : decode cX10_ask 33 = .ok (.istore 6, 2) := by decide +kernel
theorem dX10_ask_35 : decode cX10_ask 35 = .ok (.iconst 1, 1) := by decide +kernel
theorem dX10_ask_36 : decode cX10_ask 36 = .ok (.istore 7, 2) := by decide +kernel
theorem dX10_ask_38 : decode cX10_ask 38 = .ok (.iload 7, 2) := by decide +kernel
theorem dX10_ask_40 : decode cX10_ask 40 = .ok (.bipush 9, 2) := by decide +kernel
theorem dX10_ask_42 : decode cX10_ask 42 = .ok (.if_icmp .gt 47, 3) := by decide +kernel
theorem dX10_ask_45 : decode cX10_ask 45 = .ok (.aload_n 0, 1) := by decide +kernel
theorem dX10_ask_46 : decode cX10_ask 46 = .ok (.iload_n 1, 1) := by decide +kernel
theorem dX10_ask_47 : decode cX10_ask 47 = .ok (.iload 7, 2) := by decide +kernel
theorem dX10_ask_49 : decode cX10_ask 49 = .ok (.invokevirtual 481, 3) := by decide +kernel
theorem dX10_ask_52 : decode cX10_ask 52 = .ok (.ifCond .ne 6, 3) := by decide +kernel
theorem dX10_ask_55 : decode cX10_ask 55 = .ok (.goto 28, 3) := by decide +kernel
theorem dX10_ask_58 : decode cX10_ask 58 = .ok (.iconst 1, 1) := by decide +kernel
theorem dX10_ask_59 : decode cX10_ask 59 = .ok (.istore 6, 2) := by decide +kernel
theorem dX10_ask_61 : decode cX10_ask 61 = .ok (.iload 5, 2) := by decide +kernel
theorem dX10_ask_63 : decode cX10_ask 63 = .ok (.aload_n 0, 1) := by decide +kernel
theorem dX10_ask_64 : decode cX10_ask 64 = .ok (.iload_n 1, 1) := by decide +kernel
theorem dX10_ask_65 : decode cX10_ask 65 = .ok (.iload 7, 2) := by decide +kernel
theorem dX10_ask_67 : decode cX10_ask 67 = .ok (.invokevirtual 478, 3) := by decide +kernel
theorem dX10_ask_70 : decode cX10_ask 70 = .ok (.iload 4, 2) := by decide +kernel
theorem dX10_ask_72 : decode cX10_ask 72 = .ok (.if_icmp .lt 7, 3) := by decide +kernel
theorem dX10_ask_75 : decode cX10_ask 75 = .ok (.iconst 1, 1) := by decide +kernel
theorem dX10_ask_76 : decode cX10_ask 76 = .ok (.goto 4, 3) := by decide +kernel
theorem dX10_ask_79 : decode cX10_ask 79 = .ok (.iconst (-1), 1) := by decide +kernel
theorem dX10_ask_80 : decode cX10_ask 80 = .ok (.iadd, 1) := by decide +kernel
theorem dX10_ask_81 : decode cX10_ask 81 = .ok (.istore 5, 2) := by decide +kernel
theorem dX10_ask_83 : decode cX10_ask 83 = .ok (.iinc 7 1, 3) := by decide +kernel
theorem dX10_ask_86 : decode cX10_ask 86 = .ok (.goto (-48), 3) := by decide +kernel
theorem dX10_ask_89 : decode cX10_ask 89 = .ok (.iload 6, 2) := by decide +kernel
theorem dX10_ask_91 : decode cX10_ask 91 = .ok (.ifCond .ne 5, 3) := by decide +kernel
theorem dX10_ask_94 : decode cX10_ask 94 = .ok (.iconst (-1), 1) := by decide +kernel
theorem dX10_ask_95 : decode cX10_ask 95 = .ok (.ireturn, 1) := by decide +kernel
theorem dX10_ask_96 : decode cX10_ask 96 = .ok (.iload 5, 2) := by decide +kernel
theorem dX10_ask_98 : decode cX10_ask 98 = .ok (.invokestatic 484, 3) := by decide +kernel
theorem dX10_ask_101 : decode cX10_ask 101 = .ok (.istore 5, 2) := by decide +kernel
theorem dX10_ask_103 : decode cX10_ask 103 = .ok (.iload_n 2, 1) := by decide +kernel
theorem dX10_ask_104 : decode cX10_ask 104 = .ok (.iconst (-1), 1) := by decide +kernel
theorem dX10_ask_105 : decode cX10_ask 105 = .ok (.if_icmp .eq 12, 3) := by decide +kernel
theorem dX10_ask_108 : decode cX10_ask 108 = .ok (.iload 5, 2) := by decide +kernel
theorem dX10_ask_110 : decode cX10_ask 110 = .ok (.iload_n 3, 1) := by decide +kernel
theorem dX10_ask_111 : decode cX10_ask 111 = .ok (.if_icmp .lt 6, 3) := by decide +kernel
theorem dX10_ask_114 : decode cX10_ask 114 = .ok (.goto 9, 3) := by decide +kernel
theorem dX10_ask_117 : decode cX10_ask 117 = .ok (.iload 4, 2) := by decide +kernel
theorem dX10_ask_119 : decode cX10_ask 119 = .ok (.istore_n 2, 1) := by decide +kernel
theorem dX10_ask_120 : decode cX10_ask 120 = .ok (.iload 5, 2) := by decide +kernel
theorem dX10_ask_122 : decode cX10_ask 122 = .ok (.istore_n 3, 1) := by decide +kernel
theorem dX10_ask_123 : decode cX10_ask 123 = .ok (.iinc 4 1, 3) := by decide +kernel
theorem dX10_ask_126 : decode cX10_ask 126 = .ok (.goto (-104), 3) := by decide +kernel
theorem dX10_ask_129 : decode cX10_ask 129 = .ok (.iload_n 2, 1) := by decide +kernel
theorem dX10_ask_130 : decode cX10_ask 130 = .ok (.ireturn, 1) := by decide +kernel
theorem dX10_back_0 : decode cX10_back 0 = .ok (.aload_n 0, 1) := by decide +kernel
theorem dX10_back_1 : decode cX10_back 1 = .ok (.iconst 0, 1) := by decide +kernel
theorem dX10_back_2 : decode cX10_back 2 = .ok (.putfield 96, 3) := by decide +kernel
theorem dX10_back_5 : decode cX10_back 5 = .ok (.aload_n 0, 1) := by decide +kernel
theorem dX10_back_6 : decode cX10_back 6 = .ok (.getfield 306, 3) := by decide +kernel
theorem dX10_back_9 : decode cX10_back 9 = .ok (.ifCond .ne 5, 3) := by decide +kernel
theorem dX10_back_12 : decode cX10_back 12 = .ok (.iconst (-1), 1) := by decide +kernel
theorem dX10_back_13 : decode cX10_back 13 = .ok (.ireturn, 1) := by decide +kernel
theorem dX10_back_14 : decode cX10_back 14 = .ok (.iconst 0, 1) := by decide +kernel
theorem dX10_back_15 : decode cX10_back 15 = .ok (.istore_n 1, 1) := by decide +kernel
theorem dX10_back_16 : decode cX10_back 16 = .ok (.iload_n 1, 1) := by decide +kernel
theorem dX10_back_17 : decode cX10_back 17 = .ok (.sipush 233, 3) := by decide +kernel
theorem dX10_back_20 : decode cX10_back 20 = .ok (.if_icmp .ge 21, 3) := by decide +kernel
theorem dX10_back_23 : decode cX10_back 23 = .ok (.aload_n 0, 1) := by decide +kernel
theorem dX10_back_24 : decode cX10_back 24 = .ok (.getfield 61, 3) := by decide +kernel
theorem dX10_back_27 : decode cX10_back 27 = .ok (.iload_n 1, 1) := by decide +kernel
theorem dX10_back_28 : decode cX10_back 28 = .ok (.aload_n 0, 1) := by decide +kernel
theorem dX10_back_29 : decode cX10_back 29 = .ok (.getfield 93, 3) := by decide +kernel
theorem dX10_back_32 : decode cX10_back 32 = .ok (.iload_n 1, 1) := by decide +kernel
theorem dX10_back_33 : decode cX10_back 33 = .ok (.iaload, 1) := by decide +kernel
theorem dX10_back_34 : decode cX10_back 34 = .ok (.iastore, 1) := by decide +kernel
theorem dX10_back_35 : decode cX10_back 35 = .ok (.iinc 1 1, 3) := by decide +kernel
theorem dX10_back_38 : decode cX10_back 38 = .ok (.goto (-22), 3) := by decide +kernel
theorem dX10_back_41 : decode cX10_back 41 = .ok (.aload_n 0, 1) := by decide +kernel
theorem dX10_back_42 : decode cX10_back 42 = .ok (.iconst 0, 1) := by decide +kernel
theorem dX10_back_43 : decode cX10_back 43 = .ok (.putfield 303, 3) := by decide +kernel
theorem dX10_back_46 : decode cX10_back 46 = .ok (.aload_n 0, 1) := by decide +kernel
theorem dX10_back_47 : decode cX10_back 47 = .ok (.getfield 61, 3) := by decide +kernel
theorem dX10_back_50 : decode cX10_back 50 = .ok (.bipush 51, 2) := by decide +kernel
theorem dX10_back_52 : decode cX10_back 52 = .ok (.iaload, 1) := by decide +kernel
theorem dX10_back_53 : decode cX10_back 53 = .ok (.ireturn, 1) := by decide +kernel
theorem dX10_bytesIn_0 : decode cX10_bytesIn 0 = .ok (.iconst 0, 1) := by decide +kernel
theorem dX10_bytesIn_1 : decode cX10_bytesIn 1 = .ok (.istore_n 1, 1) := by decide +kernel
theorem dX10_bytesIn_2 : decode cX10_bytesIn 2 = .ok (.bipush 24, 2) := by decide +kernel
theorem dX10_bytesIn_4 : decode cX10_bytesIn 4 = .ok (.istore_n 2, 1) := by decide +kernel
theorem dX10_bytesIn_5 : decode cX10_bytesIn 5 = .ok (.iload_n 2, 1) := by decide +kernel
theorem dX10_bytesIn_6 : decode cX10_bytesIn 6 = .ok (.ifCond .lt 27, 3) := by decide +kernel
theorem dX10_bytesIn_9 : decode cX10_bytesIn 9 = .ok (.iload_n 1, 1) := by decide +kernel
theorem dX10_bytesIn_10 : decode cX10_bytesIn 10 = .ok (.iload_n 0, 1) := by decide +kernel
theorem dX10_bytesIn_11 : decode cX10_bytesIn 11 = .ok (.iload_n 2, 1) := by decide +kernel
theorem dX10_bytesIn_12 : decode cX10_bytesIn 12 = .ok (.ishr, 1) := by decide +kernel
theorem dX10_bytesIn_13 : decode cX10_bytesIn 13 = .ok (.sipush 255, 3) := by decide +kernel
theorem dX10_bytesIn_16 : decode cX10_bytesIn 16 = .ok (.iand, 1) := by decide +kernel
theorem dX10_bytesIn_17 : decode cX10_bytesIn 17 = .ok (.ifCond .eq 7, 3) := by decide +kernel
theorem dX10_bytesIn_20 : decode cX10_bytesIn 20 = .ok (.iconst 1, 1) := by decide +kernel
theorem dX10_bytesIn_21 : decode cX10_bytesIn 21 = .ok (.goto 4, 3) := by decide +kernel
theorem dX10_bytesIn_24 : decode cX10_bytesIn 24 = .ok (.iconst 0, 1) := by decide +kernel
theorem dX10_bytesIn_25 : decode cX10_bytesIn 25 = .ok (.iadd, 1) := by decide +kernel
theorem dX10_bytesIn_26 : decode cX10_bytesIn 26 = .ok (.istore_n 1, 1) := by decide +kernel
theorem dX10_bytesIn_27 : decode cX10_bytesIn 27 = .ok (.iinc 2 (-8), 3) := by decide +kernel
theorem dX10_bytesIn_30 : decode cX10_bytesIn 30 = .ok (.goto (-25), 3) := by decide +kernel
theorem dX10_bytesIn_33 : decode cX10_bytesIn 33 = .ok (.iload_n 1, 1) := by decide +kernel
theorem dX10_bytesIn_34 : decode cX10_bytesIn 34 = .ok (.ireturn, 1) := by decide +kernel
theorem dX10_canPardon_0 : decode cX10_canPardon 0 = .ok (.aload_n 0, 1) := by decide +kernel
theorem dX10_canPardon_1 : decode cX10_canPardon 1 = .ok (.iload_n 2, 1) := by decide +kernel
theorem dX10_canPardon_2 : decode cX10_canPardon 2 = .ok (.iload_n 3, 1) := by decide +kernel
theorem dX10_canPardon_3 : decode cX10_canPardon 3 = .ok (.invokevirtual 393, 3) := by decide +kernel
theorem dX10_canPardon_6 : decode cX10_canPardon 6 = .ok (.ifCond .eq 24, 3) := by decide +kernel
theorem dX10_canPardon_9 : decode cX10_canPardon 9 = .ok (.aload_n 1, 1) := by decide +kernel
theorem dX10_canPardon_10 : decode cX10_canPardon 10 = .ok (.iload_n 2, 1) := by decide +kernel
theorem dX10_canPardon_11 : decode cX10_canPardon 11 = .ok (.iload_n 3, 1) := by decide +kernel
theorem dX10_canPardon_12 : decode cX10_canPardon 12 = .ok (.invokestatic 312, 3) := by decide +kernel
theorem dX10_canPardon_15 : decode cX10_canPardon 15 = .ok (.ifCond .le 15, 3) := by decide +kernel
theorem dX10_canPardon_18 : decode cX10_canPardon 18 = .ok (.aload_n 1, 1) := by decide +kernel
theorem dX10_canPardon_19 : decode cX10_canPardon 19 = .ok (.bipush 49, 2) := by decide +kernel
theorem dX10_canPardon_21 : decode cX10_canPardon 21 = .ok (.iaload, 1) := by decide +kernel
theorem dX10_canPardon_22 : decode cX10_canPardon 22 = .ok (.iconst 4, 1) := by decide +kernel
theorem dX10_canPardon_23 : decode cX10_canPardon 23 = .ok (.if_icmp .lt 7, 3) := by decide +kernel
theorem dX10_canPardon_26 : decode cX10_canPardon 26 = .ok (.iconst 1, 1) := by decide +kernel
theorem dX10_canPardon_27 : decode cX10_canPardon 27 = .ok (.goto 4, 3) := by decide +kernel
theorem dX10_canPardon_30 : decode cX10_canPardon 30 = .ok (.iconst 0, 1) := by decide +kernel
theorem dX10_canPardon_31 : decode cX10_canPardon 31 = .ok (.ireturn, 1) := by decide +kernel
theorem dX10_canSentence_0 : decode cX10_canSentence 0 = .ok (.aload_n 0, 1) := by decide +kernel
theorem dX10_canSentence_1 : decode cX10_canSentence 1 = .ok (.iload_n 2, 1) := by decide +kernel
theorem dX10_canSentence_2 : decode cX10_canSentence 2 = .ok (.invokevirtual 369, 3) := by decide +kernel
theorem dX10_canSentence_5 : decode cX10_canSentence 5 = .ok (.ifCond .eq 18, 3) := by decide +kernel
theorem dX10_canSentence_8 : decode cX10_canSentence 8 = .ok (.aload_n 1, 1) := by decide +kernel
theorem dX10_canSentence_9 : decode cX10_canSentence 9 = .ok (.bipush 48, 2) := by decide +kernel
theorem dX10_canSentence_11 : decode cX10_canSentence 11 = .ok (.iaload, 1) := by decide +kernel
theorem dX10_canSentence_12 : decode cX10_canSentence 12 = .ok (.iload_n 2, 1) := by decide +kernel
theorem dX10_canSentence_13 : decode cX10_canSentence 13 = .ok (.invokestatic 229, 3) := by decide +kernel
theorem dX10_canSentence_16 : decode cX10_canSentence 16 = .ok (.ifCond .ne 7, 3) := by decide +kernel
theorem dX10_canSentence_19 : decode cX10_canSentence 19 = .ok (.iconst 1, 1) := by decide +kernel
theorem dX10_canSentence_20 : decode cX10_canSentence 20 = .ok (.goto 4, 3) := by decide +kernel
theorem dX10_canSentence_23 : decode cX10_canSentence 23 = .ok (.iconst 0, 1) := by decide +kernel
theorem dX10_canSentence_24 : decode cX10_canSentence 24 = .ok (.ireturn, 1) := by decide +kernel
theorem dX10_canStep_0 : decode cX10_canStep 0 = .ok (.aload_n 0, 1) := by decide +kernel
theorem dX10_canStep_1 : decode cX10_canStep 1 = .ok (.getfield 55, 3) := by decide +kernel
theorem dX10_canStep_4 : decode cX10_canStep 4 = .ok (.iload_n 2, 1) := by decide +kernel
theorem dX10_canStep_5 : decode cX10_canStep 5 = .ok (.iconst 1, 1) := by decide +kernel
theorem dX10_canStep_6 : decode cX10_canStep 6 = .ok (.iadd, 1) := by decide +kernel
theorem dX10_canStep_7 : decode cX10_canStep 7 = .ok (.iaload, 1) := by decide +kernel
theorem dX10_canStep_8 : decode cX10_canStep 8 = .ok (.istore_n 3, 1) := by decide +kernel
theorem dX10_canStep_9 : decode cX10_canStep 9 = .ok (.aload_n 0, 1) := by decide +kernel
theorem dX10_canStep_10 : decode cX10_canStep 10 = .ok (.getfield 55, 3) := by decide +kernel
theorem dX10_canStep_13 : decode cX10_canStep 13 = .ok (.iload_n 2, 1) := by decide +kernel
theorem dX10_canStep_14 : decode cX10_canStep 14 = .ok (.iaload, 1) := by decide +kernel
theorem dX10_canStep_15 : decode cX10_canStep 15 = .ok (.tableswitch 63 0 2 #[25, 32, 48], 25) := by decide +kernel
theorem dX10_canStep_40 : decode cX10_canStep 40 = .ok (.aload_n 0, 1) := by decide +kernel
theorem dX10_canStep_41 : decode cX10_canStep 41 = .ok (.aload_n 1, 1) := by decide +kernel
theorem dX10_canStep_42 : decode cX10_canStep 42 = .ok (.iload_n 3, 1) := by decide +kernel
theorem dX10_canStep_43 : decode cX10_canStep 43 = .ok (.invokevirtual 380, 3) := by decide +kernel
theorem dX10_canStep_46 : decode cX10_canStep 46 = .ok (.ireturn, 1) := by decide +kernel
theorem dX10_canStep_47 : decode cX10_canStep 47 = .ok (.aload_n 1, 1) := by decide +kernel
theorem dX10_canStep_48 : decode cX10_canStep 48 = .ok (.bipush 51, 2) := by decide +kernel
theorem dX10_canStep_50 : decode cX10_canStep 50 = .ok (.iaload, 1) := by decide +kernel
theorem dX10_canStep_51 : decode cX10_canStep 51 = .ok (.sipush 999, 3) := by decide +kernel
theorem dX10_canStep_54 : decode cX10_canStep 54 = .ok (.if_icmp .ge 7, 3) := by decide +kernel
theorem dX10_canStep_57 : decode cX10_canStep 57 = .ok (.iconst 1, 1) := by decide +kernel
theorem dX10_canStep_58 : decode cX10_canStep 58 = .ok (.goto 4, 3) := by decide +kernel
theorem dX10_canStep_61 : decode cX10_canStep 61 = .ok (.iconst 0, 1) := by decide +kernel
theorem dX10_canStep_62 : decode cX10_canStep 62 = .ok (.ireturn, 1) := by decide +kernel
theorem dX10_canStep_63 : decode cX10_canStep 63 = .ok (.aload_n 0, 1) := by decide +kernel
theorem dX10_canStep_64 : decode cX10_canStep 64 = .ok (.aload_n 1, 1) := by decide +kernel
theorem dX10_canStep_65 : decode cX10_canStep 65 = .ok (.iload_n 3, 1) := by decide +kernel
theorem dX10_canStep_66 : decode cX10_canStep 66 = .ok (.aload_n 0, 1) := by decide +kernel
theorem dX10_canStep_67 : decode cX10_canStep 67 = .ok (.getfield 55, 3) := by decide +kernel
theorem dX10_canStep_70 : decode cX10_canStep 70 = .ok (.iload_n 2, 1) := by decide +kernel
theorem dX10_canStep_71 : decode cX10_canStep 71 = .ok (.iconst 2, 1) := by decide +kernel
theorem dX10_canStep_72 : decode cX10_canStep 72 = .ok (.iadd, 1) := by decide +kernel
theorem dX10_canStep_73 : decode cX10_canStep 73 = .ok (.iaload, 1) := by decide +kernel
theorem dX10_canStep_74 : decode cX10_canStep 74 = .ok (.invokevirtual 396, 3) := by decide +kernel
theorem dX10_canStep_77 : decode cX10_canStep 77 = .ok (.ireturn, 1) := by decide +kernel
theorem dX10_canStep_78 : decode cX10_canStep 78 = .ok (.aload_n 0, 1) := by decide +kernel
theorem dX10_canStep_79 : decode cX10_canStep 79 = .ok (.aload_n 1, 1) := by decide +kernel
theorem dX10_canStep_80 : decode cX10_canStep 80 = .ok (.iload_n 3, 1) := by decide +kernel
theorem dX10_canStep_81 : decode cX10_canStep 81 = .ok (.aload_n 0, 1) := by decide +kernel
theorem dX10_canStep_82 : decode cX10_canStep 82 = .ok (.getfield 55, 3) := by decide +kernel
theorem dX10_canStep_85 : decode cX10_canStep 85 = .ok (.iload_n 2, 1) := by decide +kernel
theorem dX10_canStep_86 : decode cX10_canStep 86 = .ok (.iconst 2, 1) := by decide +kernel
theorem dX10_canStep_87 : decode cX10_canStep 87 = .ok (.iadd, 1) := by decide +kernel
theorem dX10_canStep_88 : decode cX10_canStep 88 = .ok (.iaload, 1) := by decide +kernel
theorem dX10_canStep_89 : decode cX10_canStep 89 = .ok (.invokevirtual 404, 3) := by decide +kernel
theorem dX10_canStep_92 : decode cX10_canStep 92 = .ok (.ireturn, 1) := by decide +kernel
theorem dX10_isIn_0 : decode cX10_isIn 0 = .ok (.lload_n 0, 1) := by decide +kernel
theorem dX10_isIn_1 : decode cX10_isIn 1 = .ok (.lload_n 2, 1) := by decide +kernel
theorem dX10_isIn_2 : decode cX10_isIn 2 = .ok (.lcmp, 1) := by decide +kernel
theorem dX10_isIn_3 : decode cX10_isIn 3 = .ok (.ifCond .lt 14, 3) := by decide +kernel
theorem dX10_isIn_6 : decode cX10_isIn 6 = .ok (.lload_n 0, 1) := by decide +kernel
theorem dX10_isIn_7 : decode cX10_isIn 7 = .ok (.lload 4, 2) := by decide +kernel
theorem dX10_isIn_9 : decode cX10_isIn 9 = .ok (.lcmp, 1) := by decide +kernel
theorem dX10_isIn_10 : decode cX10_isIn 10 = .ok (.ifCond .gt 7, 3) := by decide +kernel
theorem dX10_isIn_13 : decode cX10_isIn 13 = .ok (.iconst 1, 1) := by decide +kernel
theorem dX10_isIn_14 : decode cX10_isIn 14 = .ok (.goto 4, 3) := by decide +kernel
theorem dX10_isIn_17 : decode cX10_isIn 17 = .ok (.iconst 0, 1) := by decide +kernel
theorem dX10_isIn_18 : decode cX10_isIn 18 = .ok (.ireturn, 1) := by decide +kernel
theorem dX10_circle_0 : decode cX10_circle 0 = .ok (.aload_n 0, 1) := by decide +kernel
theorem dX10_circle_1 : decode cX10_circle 1 = .ok (.iconst 0, 1) := by decide +kernel
theorem dX10_circle_2 : decode cX10_circle 2 = .ok (.putfield 96, 3) := by decide +kernel
theorem dX10_circle_5 : decode cX10_circle 5 = .ok (.aload_n 0, 1) := by decide +kernel
theorem dX10_circle_6 : decode cX10_circle 6 = .ok (.iload_n 1, 1) := by decide +kernel
theorem dX10_circle_7 : decode cX10_circle 7 = .ok (.invokevirtual 309, 3) := by decide +kernel
theorem dX10_circle_10 : decode cX10_circle 10 = .ok (.ifCond .eq 15, 3) := by decide +kernel
theorem dX10_circle_13 : decode cX10_circle 13 = .ok (.iload_n 2, 1) := by decide +kernel
theorem dX10_circle_14 : decode cX10_circle 14 = .ok (.i2l, 1) := by decide +kernel
theorem dX10_circle_15 : decode cX10_circle 15 = .ok (.lconst 0, 1) := by decide +kernel
theorem dX10_circle_16 : decode cX10_circle 16 = .ok (.ldc2_w 275, 3) := by decide +kernel
theorem dX10_circle_19 : decode cX10_circle 19 = .ok (.invokestatic 217, 3) := by decide +kernel
theorem dX10_circle_22 : decode cX10_circle 22 = .ok (.ifCond .ne 5, 3) := by decide +kernel
theorem dX10_circle_25 : decode cX10_circle 25 = .ok (.iconst (-1), 1) := by decide +kernel
theorem dX10_circle_26 : decode cX10_circle 26 = .ok (.ireturn, 1) := by decide +kernel
theorem dX10_circle_27 : decode cX10_circle 27 = .ok (.iconst 0, 1) := by decide +kernel
theorem dX10_circle_28 : decode cX10_circle 28 = .ok (.istore_n 3, 1) := by decide +kernel
theorem dX10_circle_29 : decode cX10_circle 29 = .ok (.iconst 0, 1) := by decide +kernel
theorem dX10_circle_30 : decode cX10_circle 30 = .ok (.istore 4, 2) := by decide +kernel
theorem dX10_circle_32 : decode cX10_circle 32 = .ok (.iload 4, 2) := by decide +kernel
theorem dX10_circle_34 : decode cX10_circle 34 = .ok (.aload_n 0, 1) := by decide +kernel
theorem dX10_circle_35 : decode cX10_circle 35 = .ok (.getfield 297, 3) := by decide +kernel
theorem dX10_circle_38 : decode cX10_circle 38 = .ok (.if_icmp .ge 40, 3) := by decide +kernel
theorem dX10_circle_41 : decode cX10_circle 41 = .ok (.iload_n 2, 1) := by decide +kernel
theorem dX10_circle_42 : decode cX10_circle 42 = .ok (.iconst 2, 1) := by decide +kernel
theorem dX10_circle_43 : decode cX10_circle 43 = .ok (.if_icmp .ge 35, 3) := by decide +kernel
theorem dX10_circle_46 : decode cX10_circle 46 = .ok (.iload_n 3, 1) := by decide +kernel
theorem dX10_circle_47 : decode cX10_circle 47 = .ok (.aload_n 0, 1) := by decide +kernel
theorem dX10_circle_48 : decode cX10_circle 48 = .ok (.getfield 49, 3) := by decide +kernel
theorem dX10_circle_51 : decode cX10_circle 51 = .ok (.iconst 3, 1) := by decide +kernel
theorem dX10_circle_52 : decode cX10_circle 52 = .ok (.iload 4, 2) := by decide +kernel
theorem dX10_circle_54 : decode cX10_circle 54 = .ok (.imul, 1) := by decide +kernel
theorem dX10_circle_55 : decode cX10_circle 55 = .ok (.iload_n 2, 1) := by decide +kernel
theorem dX10_circle_56 : decode cX10_circle 56 = .ok (.iadd, 1) := by decide +kernel
theorem dX10_circle_57 : decode cX10_circle 57 = .ok (.iaload, 1) := by decide +kernel
theorem dX10_circle_58 : decode cX10_circle 58 = .ok (.iload_n 1, 1) := by decide +kernel
theorem dX10_circle_59 : decode cX10_circle 59 = .ok (.if_icmp .ne 10, 3) := by decide +kernel
theorem dX10_circle_62 : decode cX10_circle 62 = .ok (.iconst 1, 1) := by decide +kernel
theorem dX10_circle_63 : decode cX10_circle 63 = .ok (.iload 4, 2) := by decide +kernel
theorem dX10_circle_65 : decode cX10_circle 65 = .ok (.ishl, 1) := by decide +kernel
theorem dX10_circle_66 : decode cX10_circle 66 = .ok (.goto 4, 3) := by decide +kernel
theorem dX10_circle_69 : decode cX10_circle 69 = .ok (.iconst 0, 1) := by decide +kernel
theorem dX10_circle_70 : decode cX10_circle 70 = .ok (.ior, 1) := by decide +kernel
theorem dX10_circle_71 : decode cX10_circle 71 = .ok (.istore_n 3, 1) := by decide +kernel
theorem dX10_circle_72 : decode cX10_circle 72 = .ok (.iinc 4 1, 3) := by decide +kernel
theorem dX10_circle_75 : decode cX10_circle 75 = .ok (.goto (-43), 3) := by decide +kernel
theorem dX10_circle_78 : decode cX10_circle 78 = .ok (.iconst 0, 1) := by decide +kernel
theorem dX10_circle_79 : decode cX10_circle 79 = .ok (.istore 4, 2) := by decide +kernel
theorem dX10_circle_81 : decode cX10_circle 81 = .ok (.iload 4, 2) := by decide +kernel
theorem dX10_circle_83 : decode cX10_circle 83 = .ok (.aload_n 0, 1) := by decide +kernel
theorem dX10_circle_84 : decode cX10_circle 84 = .ok (.getfield 294, 3) := by decide +kernel
theorem dX10_circle_87 : decode cX10_circle 87 = .ok (.if_icmp .ge 38, 3) := by decide +kernel
theorem dX10_circle_90 : decode cX10_circle 90 = .ok (.iload_n 2, 1) := by decide +kernel
theorem dX10_circle_91 : decode cX10_circle 91 = .ok (.iconst 2, 1) := by decide +kernel
theorem dX10_circle_92 : decode cX10_circle 92 = .ok (.if_icmp .ne 33, 3) := by decide +kernel
theorem dX10_circle_95 : decode cX10_circle 95 = .ok (.iload_n 3, 1) := by decide +kernel
theorem dX10_circle_96 : decode cX10_circle 96 = .ok (.aload_n 0, 1) := by decide +kernel
theorem dX10_circle_97 : decode cX10_circle 97 = .ok (.getfield 61, 3) := by decide +kernel
theorem dX10_circle_100 : decode cX10_circle 100 = .ok (.iload_n 1, 1) := by decide +kernel
theorem dX10_circle_101 : decode cX10_circle 101 = .ok (.iload 4, 2) := by decide +kernel
theorem dX10_circle_103 : decode cX10_circle 103 = .ok (.invokestatic 312, 3) := by decide +kernel
theorem dX10_circle_106 : decode cX10_circle 106 = .ok (.ifCond .le 10, 3) := by decide +kernel
theorem dX10_circle_109 : decode cX10_circle 109 = .ok (.iconst 1, 1) := by decide +kernel
theorem dX10_circle_110 : decode cX10_circle 110 = .ok (.iload 4, 2) := by decide +kernel
theorem dX10_circle_112 : decode cX10_circle 112 = .ok (.ishl, 1) := by decide +kernel
theorem dX10_circle_113 : decode cX10_circle 113 = .ok (.goto 4, 3) := by decide +kernel
theorem dX10_circle_116 : decode cX10_circle 116 = .ok (.iconst 0, 1) := by decide +kernel
theorem dX10_circle_117 : decode cX10_circle 117 = .ok (.ior, 1) := by decide +kernel
theorem dX10_circle_118 : decode cX10_circle 118 = .ok (.istore_n 3, 1) := by decide +kernel
theorem dX10_circle_119 : decode cX10_circle 119 = .ok (.iinc 4 1, 3) := by decide +kernel
theorem dX10_circle_122 : decode cX10_circle 122 = .ok (.goto (-41), 3) := by decide +kernel
theorem dX10_circle_125 : decode cX10_circle 125 = .ok (.iload_n 3, 1) := by decide +kernel
theorem dX10_circle_126 : decode cX10_circle 126 = .ok (.ireturn, 1) := by decide +kernel
theorem dX10_count_0 : decode cX10_count 0 = .ok (.aload_n 0, 1) := by decide +kernel
theorem dX10_count_1 : decode cX10_count 1 = .ok (.iconst 0, 1) := by decide +kernel
theorem dX10_count_2 : decode cX10_count 2 = .ok (.putfield 96, 3) := by decide +kernel
theorem dX10_count_5 : decode cX10_count 5 = .ok (.iload_n 1, 1) := by decide +kernel
theorem dX10_count_6 : decode cX10_count 6 = .ok (.tableswitch 153 0 12 #[66, 71, 76, 81, 86, 91, 96, 104, 112, 130, 135, 140, 148], 66) := by decide +kernel
theorem dX10_count_72 : decode cX10_count 72 = .ok (.aload_n 0, 1) := by decide +kernel
theorem dX10_count_73 : decode cX10_count 73 = .ok (.getfield 294, 3) := by decide +kernel
theorem dX10_count_76 : decode cX10_count 76 = .ok (.ireturn, 1) := by decide +kernel
theorem dX10_count_77 : decode cX10_count 77 = .ok (.aload_n 0, 1) := by decide +kernel
theorem dX10_count_78 : decode cX10_count 78 = .ok (.getfield 297, 3) := by decide +kernel
theorem dX10_count_81 : decode cX10_count 81 = .ok (.ireturn, 1) := by decide +kernel
theorem dX10_count_82 : decode cX10_count 82 = .ok (.aload_n 0, 1) := by decide +kernel
theorem dX10_count_83 : decode cX10_count 83 = .ok (.getfield 286, 3) := by decide +kernel
theorem dX10_count_86 : decode cX10_count 86 = .ok (.ireturn, 1) := by decide +kernel
theorem dX10_count_87 : decode cX10_count 87 = .ok (.aload_n 0, 1) := by decide +kernel
theorem dX10_count_88 : decode cX10_count 88 = .ok (.getfield 289, 3) := by decide +kernel
theorem dX10_count_91 : decode cX10_count 91 = .ok (.ireturn, 1) := by decide +kernel
theorem dX10_count_92 : decode cX10_count 92 = .ok (.aload_n 0, 1) := by decide +kernel
theorem dX10_count_93 : decode cX10_count 93 = .ok (.getfield 109, 3) := by decide +kernel
theorem dX10_count_96 : decode cX10_count 96 = .ok (.ireturn, 1) := by decide +kernel
theorem dX10_count_97 : decode cX10_count 97 = .ok (.aload_n 0, 1) := by decide +kernel
theorem dX10_count_98 : decode cX10_count 98 = .ok (.getfield 67, 3) := by decide +kernel
theorem dX10_count_101 : decode cX10_count 101 = .ok (.ireturn, 1) := by decide +kernel
theorem dX10_count_102 : decode cX10_count 102 = .ok (.aload_n 0, 1) := by decide +kernel
theorem dX10_count_103 : decode cX10_count 103 = .ok (.getfield 61, 3) := by decide +kernel
theorem dX10_count_106 : decode cX10_count 106 = .ok (.bipush 51, 2) := by decide +kernel
theorem dX10_count_108 : decode cX10_count 108 = .ok (.iaload, 1) := by decide +kernel
theorem dX10_count_109 : decode cX10_count 109 = .ok (.ireturn, 1) := by decide +kernel
theorem dX10_count_110 : decode cX10_count 110 = .ok (.aload_n 0, 1) := by decide +kernel
theorem dX10_count_111 : decode cX10_count 111 = .ok (.getfield 61, 3) := by decide +kernel
theorem dX10_count_114 : decode cX10_count 114 = .ok (.bipush 49, 2) := by decide +kernel
theorem dX10_count_116 : decode cX10_count 116 = .ok (.iaload, 1) := by decide +kernel
theorem dX10_count_117 : decode cX10_count 117 = .ok (.ireturn, 1) := by decide +kernel
theorem dX10_count_118 : decode cX10_count 118 = .ok (.aload_n 0, 1) := by decide +kernel
theorem dX10_count_119 : decode cX10_count 119 = .ok (.getfield 294, 3) := by decide +kernel
theorem dX10_count_122 : decode cX10_count 122 = .ok (.ifCond .ne 7, 3) := by decide +kernel
theorem dX10_count_125 : decode cX10_count 125 = .ok (.iconst 0, 1) := by decide +kernel
theorem dX10_count_126 : decode cX10_count 126 = .ok (.goto 9, 3) := by decide +kernel
theorem dX10_count_129 : decode cX10_count 129 = .ok (.aload_n 0, 1) := by decide +kernel
theorem dX10_count_130 : decode cX10_count 130 = .ok (.getfield 37, 3) := by decide +kernel
theorem dX10_count_133 : decode cX10_count 133 = .ok (.iconst 0, 1) := by decide +kernel
theorem dX10_count_134 : decode cX10_count 134 = .ok (.iaload, 1) := by decide +kernel
theorem dX10_count_135 : decode cX10_count 135 = .ok (.ireturn, 1) := by decide +kernel
theorem dX10_count_136 : decode cX10_count 136 = .ok (.aload_n 0, 1) := by decide +kernel
theorem dX10_count_137 : decode cX10_count 137 = .ok (.getfield 71, 3) := by decide +kernel
theorem dX10_count_140 : decode cX10_count 140 = .ok (.ireturn, 1) := by decide +kernel
theorem dX10_count_141 : decode cX10_count 141 = .ok (.aload_n 0, 1) := by decide +kernel
theorem dX10_count_142 : decode cX10_count 142 = .ok (.getfield 300, 3) := by decide +kernel
theorem dX10_count_145 : decode cX10_count 145 = .ok (.ireturn, 1) := by decide +kernel
theorem dX10_count_146 : decode cX10_count 146 = .ok (.aload_n 0, 1) := by decide +kernel
theorem dX10_count_147 : decode cX10_count 147 = .ok (.getfield 61, 3) := by decide +kernel
theorem dX10_count_150 : decode cX10_count 150 = .ok (.bipush 52, 2) := by decide +kernel
theorem dX10_count_152 : decode cX10_count 152 = .ok (.iaload, 1) := by decide +kernel
theorem dX10_count_153 : decode cX10_count 153 = .ok (.ireturn, 1) := by decide +kernel
theorem dX10_count_154 : decode cX10_count 154 = .ok (.aload_n 0, 1) := by decide +kernel
theorem dX10_count_155 : decode cX10_count 155 = .ok (.getfield 303, 3) := by decide +kernel
theorem dX10_count_158 : decode cX10_count 158 = .ok (.ireturn, 1) := by decide +kernel
theorem dX10_count_159 : decode cX10_count 159 = .ok (.ldc_w 428, 3) := by decide +kernel
theorem dX10_count_162 : decode cX10_count 162 = .ok (.ireturn, 1) := by decide +kernel
