theorem dX9_ask_0 : decode cX9_ask 0 = .ok (.aload_n 0, 1) := by decide +kernel
theorem dX9_ask_1 : decode cX9_ask 1 = .ok (.iload_n 1, 1) := by decide +kernel
theorem dX9_ask_2 : decode cX9_ask 2 = .ok (.invokevirtual 154, 3) := by decide +kernel
theorem dX9_ask_5 : decode cX9_ask 5 = .ok (.ifCond .ne 5, 3) := by decide +kernel
theorem dX9_ask_8 : decode cX9_ask 8 = .ok (.iconst (-1), 1) := by decide +kernel
theorem dX9_ask_9 : decode cX9_ask 9 = .ok (.ireturn, 1) := by decide +kernel
theorem dX9_ask_10 : decode cX9_ask 10 = .ok (.aload_n 0, 1) := by decide +kernel
theorem dX9_ask_11 : decode cX9_ask 11 = .ok (.iload_n 1, 1) := by decide +kernel
theorem dX9_ask_12 : decode cX9_ask 12 = .ok (.invokevirtual 327, 3) := by decide +kernel
theorem dX9_ask_15 : decode cX9_ask 15 = .ok (.istore_n 2, 1) := by decide +kernel
theorem dX9_ask_16 : decode cX9_ask 16 = .ok (.iload_n 2, 1) := by decide +kernel
theorem dX9_ask_17 : decode cX9_ask 17 = .ok (.ifCond .ne 5, 3) := by decide +kernel
theorem dX9_ask_20 : decode cX9_ask 20 = .ok (.iconst (-1), 1) := by decide +kernel
theorem dX9_ask_21 : decode cX9_ask 21 = .ok (.ireturn, 1) := by decide +kernel
theorem dX9_ask_22 : decode cX9_ask 22 = .ok (.iconst (-1), 1) := by decide +kernel
theorem dX9_ask_23 : decode cX9_ask 23 = .ok (.istore_n 3, 1) := by decide +kernel
theorem dX9_ask_24 : decode cX9_ask 24 = .ok (.bipush 10, 2) := by decide +kernel
theorem dX9_ask_26 : decode cX9_ask 26 = .ok (.istore 4, 2) := by decide +kernel
theorem dX9_ask_28 : decode cX9_ask 28 = .ok (.iconst 1, 1) := by decide +kernel
theorem dX9_ask_29 : decode cX9_ask 29 = .ok (.istore 5, 2) := by decide +kernel
theorem dX9_ask_31 : decode cX9_ask 31 = .ok (.iload 5, 2) := by decide +kernel
theorem dX9_ask_33 : decode cX9_ask 33 = .ok (.bipush 30, 2) := by decide +kernel
theorem dX9_ask_35 : decode cX9_ask 35 = .ok (.if_icmp .gt 46, 3) := by decide +kernel
theorem dX9_ask_38 : decode cX9_ask 38 = .ok (.aload_n 0, 1) := by decide +kernel
theorem dX9_ask_39 : decode cX9_ask 39 = .ok (.getfield 89, 3) := by decide +kernel
theorem dX9_ask_42 : decode cX9_ask 42 = .ok (.iload 5, 2) := by decide +kernel
theorem dX9_ask_44 : decode cX9_ask 44 = .ok (.invokevirtual 336, 3) := by decide +kernel
theorem dX9_ask_47 : decode cX9_ask 47 = .ok (.istore 6, 2) := by decide +kernel
theorem dX9_ask_49 : decode cX9_ask 49 = .ok (.iload 6, 2) := by decide +kernel
theorem dX9_ask_51 : decode cX9_ask 51 = .ok (.iload_n 2, 1) := by decide +kernel
theorem dX9_ask_52 : decode cX9_ask 52 = .ok (.iload 6, 2) := by decide +kernel
theorem dX9_ask_54 : decode cX9_ask 54 = .ok (.isub, 1) := by decide +kernel
theorem dX9_ask_55 : decode cX9_ask 55 = .ok (.isub, 1) := by decide +kernel
theorem dX9_ask_56 : decode cX9_ask 56 = .ok (.invokestatic 339, 3) := by decide +kernel
theorem dX9_ask_59 : decode cX9_ask 59 = .ok (.istore 7, 2) := by decide +kernel
theorem dX9_ask_61 : decode cX9_ask 61 = .ok (.iload 7, 2) := by decide +kernel
theorem dX9_ask_63 : decode cX9_ask 63 = .ok (.iload 4, 2) := by decide +kernel
theorem dX9_ask_65 : decode cX9_ask 65 = .ok (.if_icmp .ge 10, 3) := by decide +kernel
theorem dX9_ask_68 : decode cX9_ask 68 = .ok (.iload 7, 2) := by decide +kernel
theorem dX9_ask_70 : decode cX9_ask 70 = .ok (.istore 4, 2) := by decide +kernel
theorem dX9_ask_72 : decode cX9_ask 72 = .ok (.iload 5, 2) := by decide +kernel
theorem dX9_ask_74 : decode cX9_ask 74 = .ok (.istore_n 3, 1) := by decide +kernel
theorem dX9_ask_75 : decode cX9_ask 75 = .ok (.iinc 5 1, 3) := by decide +kernel
theorem dX9_ask_78 : decode cX9_ask 78 = .ok (.goto (-47), 3) := by decide +kernel
theorem dX9_ask_81 : decode cX9_ask 81 = .ok (.iload_n 3, 1) := by decide +kernel
theorem dX9_ask_82 : decode cX9_ask 82 = .ok (.ireturn, 1) := by decide +kernel
theorem dX3_restore_0 : decode cX3_restore 0 = .ok (.iconst 0, 1) := by decide +kernel
theorem dX3_restore_1 : decode cX3_restore 1 = .ok (.istore_n 2, 1) := by decide +kernel
theorem dX3_restore_2 : decode cX3_restore 2 = .ok (.iload_n 2, 1) := by decide +kernel
theorem dX3_restore_3 : decode cX3_restore 3 = .ok (.bipush 60, 2) := by decide +kernel
theorem dX3_restore_5 : decode cX3_restore 5 = .ok (.if_icmp .ge 30, 3) := by decide +kernel
theorem dX3_restore_8 : decode cX3_restore 8 = .ok (.aload_n 0, 1) := by decide +kernel
theorem dX3_restore_9 : decode cX3_restore 9 = .ok (.getfield 9, 3) := by decide +kernel
theorem dX3_restore_12 : decode cX3_restore 12 = .ok (.aload_n 1, 1) := by decide +kernel
theorem dX3_restore_13 : decode cX3_restore 13 = .ok (.getfield 18, 3) := by decide +kernel
theorem dX3_restore_16 : decode cX3_restore 16 = .ok (.iload_n 2, 1) := by decide +kernel
theorem dX3_restore_17 : decode cX3_restore 17 = .ok (.isub, 1) := by decide +kernel
theorem dX3_restore_18 : decode cX3_restore 18 = .ok (.aload_n 0, 1) := by decide +kernel
theorem dX3_restore_19 : decode cX3_restore 19 = .ok (.getfield 15, 3) := by decide +kernel
theorem dX3_restore_22 : decode cX3_restore 22 = .ok (.iload_n 2, 1) := by decide +kernel
theorem dX3_restore_23 : decode cX3_restore 23 = .ok (.invokestatic 44, 3) := by decide +kernel
theorem dX3_restore_26 : decode cX3_restore 26 = .ok (.invokestatic 40, 3) := by decide +kernel
theorem dX3_restore_29 : decode cX3_restore 29 = .ok (.iinc 2 1, 3) := by decide +kernel
theorem dX3_restore_32 : decode cX3_restore 32 = .ok (.goto (-30), 3) := by decide +kernel
theorem dX3_restore_35 : decode cX3_restore 35 = .ok (.return_, 1) := by decide +kernel
theorem dX4_forget_0 : decode cX4_forget 0 = .ok (.aload_n 0, 1) := by decide +kernel
theorem dX4_forget_1 : decode cX4_forget 1 = .ok (.iconst 0, 1) := by decide +kernel
theorem dX4_forget_2 : decode cX4_forget 2 = .ok (.putfield 21, 3) := by decide +kernel
theorem dX4_forget_5 : decode cX4_forget 5 = .ok (.return_, 1) := by decide +kernel
theorem dX9_back_0 : decode cX9_back 0 = .ok (.aload_n 0, 1) := by decide +kernel
theorem dX9_back_1 : decode cX9_back 1 = .ok (.getfield 64, 3) := by decide +kernel
theorem dX9_back_4 : decode cX9_back 4 = .ok (.ifCond .ne 5, 3) := by decide +kernel
theorem dX9_back_7 : decode cX9_back 7 = .ok (.iconst (-1), 1) := by decide +kernel
theorem dX9_back_8 : decode cX9_back 8 = .ok (.ireturn, 1) := by decide +kernel
theorem dX9_back_9 : decode cX9_back 9 = .ok (.aload_n 0, 1) := by decide +kernel
theorem dX9_back_10 : decode cX9_back 10 = .ok (.getfield 58, 3) := by decide +kernel
theorem dX9_back_13 : decode cX9_back 13 = .ok (.aload_n 0, 1) := by decide +kernel
theorem dX9_back_14 : decode cX9_back 14 = .ok (.getfield 61, 3) := by decide +kernel
theorem dX9_back_17 : decode cX9_back 17 = .ok (.invokevirtual 262, 3) := by decide +kernel
theorem dX9_back_20 : decode cX9_back 20 = .ok (.aload_n 0, 1) := by decide +kernel
theorem dX9_back_21 : decode cX9_back 21 = .ok (.getfield 82, 3) := by decide +kernel
theorem dX9_back_24 : decode cX9_back 24 = .ok (.aload_n 0, 1) := by decide +kernel
theorem dX9_back_25 : decode cX9_back 25 = .ok (.getfield 58, 3) := by decide +kernel
theorem dX9_back_28 : decode cX9_back 28 = .ok (.invokevirtual 385, 3) := by decide +kernel
theorem dX9_back_31 : decode cX9_back 31 = .ok (.aload_n 0, 1) := by decide +kernel
theorem dX9_back_32 : decode cX9_back 32 = .ok (.getfield 75, 3) := by decide +kernel
theorem dX9_back_35 : decode cX9_back 35 = .ok (.invokevirtual 388, 3) := by decide +kernel
theorem dX9_back_38 : decode cX9_back 38 = .ok (.aload_n 0, 1) := by decide +kernel
theorem dX9_back_39 : decode cX9_back 39 = .ok (.getfield 58, 3) := by decide +kernel
theorem dX9_back_42 : decode cX9_back 42 = .ok (.getfield 227, 3) := by decide +kernel
theorem dX9_back_45 : decode cX9_back 45 = .ok (.ireturn, 1) := by decide +kernel
theorem dX9_breakingWith_0 : decode cX9_breakingWith 0 = .ok (.lload 4, 2) := by decide +kernel
theorem dX9_breakingWith_2 : decode cX9_breakingWith 2 = .ok (.lconst 0, 1) := by decide +kernel
theorem dX9_breakingWith_3 : decode cX9_breakingWith 3 = .ok (.lcmp, 1) := by decide +kernel
theorem dX9_breakingWith_4 : decode cX9_breakingWith 4 = .ok (.ifCond .gt 5, 3) := by decide +kernel
theorem dX9_breakingWith_7 : decode cX9_breakingWith 7 = .ok (.lconst 0, 1) := by decide +kernel
theorem dX9_breakingWith_8 : decode cX9_breakingWith 8 = .ok (.lreturn, 1) := by decide +kernel
theorem dX9_breakingWith_9 : decode cX9_breakingWith 9 = .ok (.aload_n 0, 1) := by decide +kernel
theorem dX9_breakingWith_10 : decode cX9_breakingWith 10 = .ok (.iload_n 1, 1) := by decide +kernel
theorem dX9_breakingWith_11 : decode cX9_breakingWith 11 = .ok (.iconst 1, 1) := by decide +kernel
theorem dX9_breakingWith_12 : decode cX9_breakingWith 12 = .ok (.isub, 1) := by decide +kernel
theorem dX9_breakingWith_13 : decode cX9_breakingWith 13 = .ok (.invokevirtual 258, 3) := by decide +kernel
theorem dX9_breakingWith_16 : decode cX9_breakingWith 16 = .ok (.astore 7, 2) := by decide +kernel
theorem dX9_breakingWith_18 : decode cX9_breakingWith 18 = .ok (.aload 7, 2) := by decide +kernel
theorem dX9_breakingWith_20 : decode cX9_breakingWith 20 = .ok (.aload_n 0, 1) := by decide +kernel
theorem dX9_breakingWith_21 : decode cX9_breakingWith 21 = .ok (.iload_n 1, 1) := by decide +kernel
theorem dX9_breakingWith_22 : decode cX9_breakingWith 22 = .ok (.invokevirtual 258, 3) := by decide +kernel
theorem dX9_breakingWith_25 : decode cX9_breakingWith 25 = .ok (.invokevirtual 262, 3) := by decide +kernel
theorem dX9_breakingWith_28 : decode cX9_breakingWith 28 = .ok (.aload 7, 2) := by decide +kernel
theorem dX9_breakingWith_30 : decode cX9_breakingWith 30 = .ok (.iload 6, 2) := by decide +kernel
theorem dX9_breakingWith_32 : decode cX9_breakingWith 32 = .ok (.invokevirtual 233, 3) := by decide +kernel
theorem dX9_breakingWith_35 : decode cX9_breakingWith 35 = .ok (.aload 7, 2) := by decide +kernel
theorem dX9_breakingWith_37 : decode cX9_breakingWith 37 = .ok (.getfield 444, 3) := by decide +kernel
theorem dX9_breakingWith_40 : decode cX9_breakingWith 40 = .ok (.iload_n 2, 1) := by decide +kernel
theorem dX9_breakingWith_41 : decode cX9_breakingWith 41 = .ok (.invokestatic 447, 3) := by decide +kernel
theorem dX9_breakingWith_44 : decode cX9_breakingWith 44 = .ok (.ifCond .eq 6, 3) := by decide +kernel
theorem dX9_breakingWith_47 : decode cX9_breakingWith 47 = .ok (.lload 4, 2) := by decide +kernel
theorem dX9_breakingWith_49 : decode cX9_breakingWith 49 = .ok (.lreturn, 1) := by decide +kernel
theorem dX9_breakingWith_50 : decode cX9_breakingWith 50 = .ok (.aload_n 0, 1) := by decide +kernel
theorem dX9_breakingWith_51 : decode cX9_breakingWith 51 = .ok (.iload_n 1, 1) := by decide +kernel
theorem dX9_breakingWith_52 : decode cX9_breakingWith 52 = .ok (.iconst 1, 1) := by decide +kernel
theorem dX9_breakingWith_53 : decode cX9_breakingWith 53 = .ok (.isub, 1) := by decide +kernel
theorem dX9_breakingWith_54 : decode cX9_breakingWith 54 = .ok (.iload_n 2, 1) := by decide +kernel
theorem dX9_breakingWith_55 : decode cX9_breakingWith 55 = .ok (.iload_n 3, 1) := by decide +kernel
theorem dX9_breakingWith_56 : decode cX9_breakingWith 56 = .ok (.lload 4, 2) := by decide +kernel
theorem dX9_breakingWith_58 : decode cX9_breakingWith 58 = .ok (.invokevirtual 352, 3) := by decide +kernel
theorem dX9_breakingWith_61 : decode cX9_breakingWith 61 = .ok (.lreturn, 1) := by decide +kernel
theorem dX9_breaking_0 : decode cX9_breaking 0 = .ok (.iload_n 1, 1) := by decide +kernel
theorem dX9_breaking_1 : decode cX9_breaking 1 = .ok (.ifCond .le 9, 3) := by decide +kernel
theorem dX9_breaking_4 : decode cX9_breaking 4 = .ok (.iload_n 1, 1) := by decide +kernel
theorem dX9_breaking_5 : decode cX9_breaking 5 = .ok (.bipush 6, 2) := by decide +kernel
theorem dX9_breaking_7 : decode cX9_breaking 7 = .ok (.if_icmp .le 5, 3) := by decide +kernel
theorem dX9_breaking_10 : decode cX9_breaking 10 = .ok (.lconst 0, 1) := by decide +kernel
theorem dX9_breaking_11 : decode cX9_breaking 11 = .ok (.lreturn, 1) := by decide +kernel
theorem dX9_breaking_12 : decode cX9_breaking 12 = .ok (.lload 4, 2) := by decide +kernel
theorem dX9_breaking_14 : decode cX9_breaking 14 = .ok (.iload_n 3, 1) := by decide +kernel
theorem dX9_breaking_15 : decode cX9_breaking 15 = .ok (.i2l, 1) := by decide +kernel
theorem dX9_breaking_16 : decode cX9_breaking 16 = .ok (.lmul, 1) := by decide +kernel
theorem dX9_breaking_17 : decode cX9_breaking 17 = .ok (.ldc2_w 438, 3) := by decide +kernel
theorem dX9_breaking_20 : decode cX9_breaking 20 = .ok (.ldiv, 1) := by decide +kernel
theorem dX9_breaking_21 : decode cX9_breaking 21 = .ok (.lstore 6, 2) := by decide +kernel
theorem dX9_breaking_23 : decode cX9_breaking 23 = .ok (.aload_n 0, 1) := by decide +kernel
theorem dX9_breaking_24 : decode cX9_breaking 24 = .ok (.iload_n 1, 1) := by decide +kernel
theorem dX9_breaking_25 : decode cX9_breaking 25 = .ok (.iload_n 2, 1) := by decide +kernel
theorem dX9_breaking_26 : decode cX9_breaking 26 = .ok (.iload_n 3, 1) := by decide +kernel
theorem dX9_breaking_27 : decode cX9_breaking 27 = .ok (.lload 6, 2) := by decide +kernel
theorem dX9_breaking_29 : decode cX9_breaking 29 = .ok (.iload_n 2, 1) := by decide +kernel
theorem dX9_breaking_30 : decode cX9_breaking 30 = .ok (.invokevirtual 440, 3) := by decide +kernel
theorem dX9_breaking_33 : decode cX9_breaking 33 = .ok (.aload_n 0, 1) := by decide +kernel
theorem dX9_breaking_34 : decode cX9_breaking 34 = .ok (.iload_n 1, 1) := by decide +kernel
theorem dX9_breaking_35 : decode cX9_breaking 35 = .ok (.iload_n 2, 1) := by decide +kernel
theorem dX9_breaking_36 : decode cX9_breaking 36 = .ok (.iload_n 3, 1) := by decide +kernel
theorem dX9_breaking_37 : decode cX9_breaking 37 = .ok (.lload 4, 2) := by decide +kernel
theorem dX9_breaking_39 : decode cX9_breaking 39 = .ok (.lload 6, 2) := by decide +kernel
theorem dX9_breaking_41 : decode cX9_breaking 41 = .ok (.lsub, 1) := by decide +kernel
theorem dX9_breaking_42 : decode cX9_breaking 42 = .ok (.iconst (-1), 1) := by decide +kernel
theorem dX9_breaking_43 : decode cX9_breaking 43 = .ok (.invokevirtual 440, 3) := by decide +kernel
theorem dX9_breaking_46 : decode cX9_breaking 46 = .ok (.ladd, 1) := by decide +kernel
theorem dX9_breaking_47 : decode cX9_breaking 47 = .ok (.lreturn, 1) := by decide +kernel
theorem dX0_wrongsAgainst_0 : decode cX0_wrongsAgainst 0 = .ok (.iconst 0, 1) := by decide +kernel
theorem dX0_wrongsAgainst_1 : decode cX0_wrongsAgainst 1 = .ok (.istore_n 2, 1) := by decide +kernel
theorem dX0_wrongsAgainst_2 : decode cX0_wrongsAgainst 2 = .ok (.iconst 0, 1) := by decide +kernel
theorem dX0_wrongsAgainst_3 : decode cX0_wrongsAgainst 3 = .ok (.istore_n 3, 1) := by decide +kernel
theorem dX0_wrongsAgainst_4 : decode cX0_wrongsAgainst 4 = .ok (.iload_n 3, 1) := by decide +kernel
theorem dX0_wrongsAgainst_5 : decode cX0_wrongsAgainst 5 = .ok (.aload_n 0, 1) := by decide +kernel
theorem dX0_wrongsAgainst_6 : decode cX0_wrongsAgainst 6 = .ok (.getfield 29, 3) := by decide +kernel
theorem dX0_wrongsAgainst_9 : decode cX0_wrongsAgainst 9 = .ok (.if_icmp .ge 28, 3) := by decide +kernel
theorem dX0_wrongsAgainst_12 : decode cX0_wrongsAgainst 12 = .ok (.iload_n 2, 1) := by decide +kernel
theorem dX0_wrongsAgainst_13 : decode cX0_wrongsAgainst 13 = .ok (.aload_n 0, 1) := by decide +kernel
theorem dX0_wrongsAgainst_14 : decode cX0_wrongsAgainst 14 = .ok (.iload_n 3, 1) := by decide +kernel
theorem dX0_wrongsAgainst_15 : decode cX0_wrongsAgainst 15 = .ok (.invokevirtual 64, 3) := by decide +kernel
theorem dX0_wrongsAgainst_18 : decode cX0_wrongsAgainst 18 = .ok (.iload_n 1, 1) := by decide +kernel
theorem dX0_wrongsAgainst_19 : decode cX0_wrongsAgainst 19 = .ok (.if_icmp .ne 9, 3) := by decide +kernel
theorem dX0_wrongsAgainst_22 : decode cX0_wrongsAgainst 22 = .ok (.iconst 1, 1) := by decide +kernel
theorem dX0_wrongsAgainst_23 : decode cX0_wrongsAgainst 23 = .ok (.iload_n 3, 1) := by decide +kernel
theorem dX0_wrongsAgainst_24 : decode cX0_wrongsAgainst 24 = .ok (.ishl, 1) := by decide +kernel
theorem dX0_wrongsAgainst_25 : decode cX0_wrongsAgainst 25 = .ok (.goto 4, 3) := by decide +kernel
theorem dX0_wrongsAgainst_28 : decode cX0_wrongsAgainst 28 = .ok (.iconst 0, 1) := by decide +kernel
theorem dX0_wrongsAgainst_29 : decode cX0_wrongsAgainst 29 = .ok (.ior, 1) := by decide +kernel
theorem dX0_wrongsAgainst_30 : decode cX0_wrongsAgainst 30 = .ok (.istore_n 2, 1) := by decide +kernel
theorem dX0_wrongsAgainst_31 : decode cX0_wrongsAgainst 31 = .ok (.iinc 3 1, 3) := by decide +kernel
theorem dX0_wrongsAgainst_34 : decode cX0_wrongsAgainst 34 = .ok (.goto (-30), 3) := by decide +kernel
theorem dX0_wrongsAgainst_37 : decode cX0_wrongsAgainst 37 = .ok (.iload_n 2, 1) := by decide +kernel
theorem dX0_wrongsAgainst_38 : decode cX0_wrongsAgainst 38 = .ok (.ireturn, 1) := by decide +kernel
theorem dX9_circle_0 : decode cX9_circle 0 = .ok (.aload_n 0, 1) := by decide +kernel
theorem dX9_circle_1 : decode cX9_circle 1 = .ok (.iload_n 1, 1) := by decide +kernel
theorem dX9_circle_2 : decode cX9_circle 2 = .ok (.invokevirtual 132, 3) := by decide +kernel
theorem dX9_circle_5 : decode cX9_circle 5 = .ok (.ifCond .ne 5, 3) := by decide +kernel
theorem dX9_circle_8 : decode cX9_circle 8 = .ok (.iconst (-1), 1) := by decide +kernel
theorem dX9_circle_9 : decode cX9_circle 9 = .ok (.ireturn, 1) := by decide +kernel
theorem dX9_circle_10 : decode cX9_circle 10 = .ok (.iload_n 2, 1) := by decide +kernel
theorem dX9_circle_11 : decode cX9_circle 11 = .ok (.tableswitch 49 0 2 #[25, 34, 43], 25) := by decide +kernel
theorem dX9_circle_36 : decode cX9_circle 36 = .ok (.aload_n 0, 1) := by decide +kernel
theorem dX9_circle_37 : decode cX9_circle 37 = .ok (.getfield 19, 3) := by decide +kernel
theorem dX9_circle_40 : decode cX9_circle 40 = .ok (.iload_n 1, 1) := by decide +kernel
theorem dX9_circle_41 : decode cX9_circle 41 = .ok (.invokevirtual 374, 3) := by decide +kernel
theorem dX9_circle_44 : decode cX9_circle 44 = .ok (.ireturn, 1) := by decide +kernel
theorem dX9_circle_45 : decode cX9_circle 45 = .ok (.aload_n 0, 1) := by decide +kernel
theorem dX9_circle_46 : decode cX9_circle 46 = .ok (.getfield 19, 3) := by decide +kernel
theorem dX9_circle_49 : decode cX9_circle 49 = .ok (.iload_n 1, 1) := by decide +kernel
theorem dX9_circle_50 : decode cX9_circle 50 = .ok (.invokevirtual 377, 3) := by decide +kernel
theorem dX9_circle_53 : decode cX9_circle 53 = .ok (.ireturn, 1) := by decide +kernel
theorem dX9_circle_54 : decode cX9_circle 54 = .ok (.aload_n 0, 1) := by decide +kernel
theorem dX9_circle_55 : decode cX9_circle 55 = .ok (.iload_n 1, 1) := by decide +kernel
theorem dX9_circle_56 : decode cX9_circle 56 = .ok (.invokevirtual 380, 3) := by decide +kernel
theorem dX9_circle_59 : decode cX9_circle 59 = .ok (.ireturn, 1) := by decide +kernel
theorem dX9_circle_60 : decode cX9_circle 60 = .ok (.iconst (-1), 1) := by decide +kernel
theorem dX9_circle_61 : decode cX9_circle 61 = .ok (.ireturn, 1) := by decide +kernel
theorem dX3_lengthAt_0 : decode cX3_lengthAt 0 = .ok (.bipush 60, 2) := by decide +kernel
theorem dX3_lengthAt_2 : decode cX3_lengthAt 2 = .ok (.aload_n 0, 1) := by decide +kernel
theorem dX3_lengthAt_3 : decode cX3_lengthAt 3 = .ok (.getfield 18, 3) := by decide +kernel
theorem dX3_lengthAt_6 : decode cX3_lengthAt 6 = .ok (.invokestatic 24, 3) := by decide +kernel
theorem dX3_lengthAt_9 : decode cX3_lengthAt 9 = .ok (.ireturn, 1) := by decide +kernel
theorem dX9_count_0 : decode cX9_count 0 = .ok (.iload_n 1, 1) := by decide +kernel
theorem dX9_count_1 : decode cX9_count 1 = .ok (.tableswitch 170 0 12 #[67, 75, 83, 88, 93, 101, 106, 114, 122, 141, 146, 154, 162], 67) := by decide +kernel
theorem dX9_count_68 : decode cX9_count 68 = .ok (.aload_n 0, 1) := by decide +kernel
theorem dX9_count_69 : decode cX9_count 69 = .ok (.getfield 19, 3) := by decide +kernel
theorem dX9_count_72 : decode cX9_count 72 = .ok (.getfield 391, 3) := by decide +kernel
theorem dX9_count_75 : decode cX9_count 75 = .ok (.ireturn, 1) := by decide +kernel
theorem dX9_count_76 : decode cX9_count 76 = .ok (.aload_n 0, 1) := by decide +kernel
theorem dX9_count_77 : decode cX9_count 77 = .ok (.getfield 19, 3) := by decide +kernel
theorem dX9_count_80 : decode cX9_count 80 = .ok (.getfield 359, 3) := by decide +kernel
theorem dX9_count_83 : decode cX9_count 83 = .ok (.ireturn, 1) := by decide +kernel
theorem dX9_count_84 : decode cX9_count 84 = .ok (.aload_n 0, 1) := by decide +kernel
theorem dX9_count_85 : decode cX9_count 85 = .ok (.getfield 38, 3) := by decide +kernel
theorem dX9_count_88 : decode cX9_count 88 = .ok (.ireturn, 1) := by decide +kernel
theorem dX9_count_89 : decode cX9_count 89 = .ok (.aload_n 0, 1) := by decide +kernel
theorem dX9_count_90 : decode cX9_count 90 = .ok (.getfield 45, 3) := by decide +kernel
theorem dX9_count_93 : decode cX9_count 93 = .ok (.ireturn, 1) := by decide +kernel
theorem dX9_count_94 : decode cX9_count 94 = .ok (.aload_n 0, 1) := by decide +kernel
theorem dX9_count_95 : decode cX9_count 95 = .ok (.getfield 10, 3) := by decide +kernel
theorem dX9_count_98 : decode cX9_count 98 = .ok (.getfield 114, 3) := by decide +kernel
theorem dX9_count_101 : decode cX9_count 101 = .ok (.ireturn, 1) := by decide +kernel
theorem dX9_count_102 : decode cX9_count 102 = .ok (.aload_n 0, 1) := by decide +kernel
theorem dX9_count_103 : decode cX9_count 103 = .ok (.getfield 42, 3) := by decide +kernel
theorem dX9_count_106 : decode cX9_count 106 = .ok (.ireturn, 1) := by decide +kernel
theorem dX9_count_107 : decode cX9_count 107 = .ok (.aload_n 0, 1) := by decide +kernel
theorem dX9_count_108 : decode cX9_count 108 = .ok (.getfield 58, 3) := by decide +kernel
theorem dX9_count_111 : decode cX9_count 111 = .ok (.getfield 227, 3) := by decide +kernel
theorem dX9_count_114 : decode cX9_count 114 = .ok (.ireturn, 1) := by decide +kernel
theorem dX9_count_115 : decode cX9_count 115 = .ok (.aload_n 0, 1) := by decide +kernel
theorem dX9_count_116 : decode cX9_count 116 = .ok (.getfield 58, 3) := by decide +kernel
theorem dX9_count_119 : decode cX9_count 119 = .ok (.getfield 209, 3) := by decide +kernel
theorem dX9_count_122 : decode cX9_count 122 = .ok (.ireturn, 1) := by decide +kernel
theorem dX9_count_123 : decode cX9_count 123 = .ok (.aload_n 0, 1) := by decide +kernel
theorem dX9_count_124 : decode cX9_count 124 = .ok (.invokevirtual 223, 3) := by decide +kernel
theorem dX9_count_127 : decode cX9_count 127 = .ok (.ifCond .eq 13, 3) := by decide +kernel
theorem dX9_count_130 : decode cX9_count 130 = .ok (.aload_n 0, 1) := by decide +kernel
theorem dX9_count_131 : decode cX9_count 131 = .ok (.getfield 19, 3) := by decide +kernel
theorem dX9_count_134 : decode cX9_count 134 = .ok (.invokevirtual 392, 3) := by decide +kernel
theorem dX9_count_137 : decode cX9_count 137 = .ok (.goto 4, 3) := by decide +kernel
theorem dX9_count_140 : decode cX9_count 140 = .ok (.iconst 0, 1) := by decide +kernel
theorem dX9_count_141 : decode cX9_count 141 = .ok (.ireturn, 1) := by decide +kernel
theorem dX9_count_142 : decode cX9_count 142 = .ok (.aload_n 0, 1) := by decide +kernel
theorem dX9_count_143 : decode cX9_count 143 = .ok (.getfield 48, 3) := by decide +kernel
theorem dX9_count_146 : decode cX9_count 146 = .ok (.ireturn, 1) := by decide +kernel
theorem dX9_count_147 : decode cX9_count 147 = .ok (.aload_n 0, 1) := by decide +kernel
theorem dX9_count_148 : decode cX9_count 148 = .ok (.getfield 89, 3) := by decide +kernel
theorem dX9_count_151 : decode cX9_count 151 = .ok (.getfield 323, 3) := by decide +kernel
theorem dX9_count_154 : decode cX9_count 154 = .ok (.ireturn, 1) := by decide +kernel
theorem dX9_count_155 : decode cX9_count 155 = .ok (.aload_n 0, 1) := by decide +kernel
theorem dX9_count_156 : decode cX9_count 156 = .ok (.getfield 58, 3) := by decide +kernel
theorem dX9_count_159 : decode cX9_count 159 = .ok (.invokestatic 240, 3) := by decide +kernel
theorem dX9_count_162 : decode cX9_count 162 = .ok (.ireturn, 1) := by decide +kernel
theorem dX9_count_163 : decode cX9_count 163 = .ok (.aload_n 0, 1) := by decide +kernel
theorem dX9_count_164 : decode cX9_count 164 = .ok (.getfield 75, 3) := by decide +kernel
theorem dX9_count_167 : decode cX9_count 167 = .ok (.getfield 395, 3) := by decide +kernel
theorem dX9_count_170 : decode cX9_count 170 = .ok (.ireturn, 1) := by decide +kernel
theorem dX9_count_171 : decode cX9_count 171 = .ok (.ldc 249, 2) := by decide +kernel
theorem dX9_count_173 : decode cX9_count 173 = .ok (.ireturn, 1) := by decide +kernel
theorem dX9_crime_0 : decode cX9_crime 0 = .ok (.aload_n 0, 1) := by decide +kernel
theorem dX9_crime_1 : decode cX9_crime 1 = .ok (.iload_n 1, 1) := by decide +kernel
theorem dX9_crime_2 : decode cX9_crime 2 = .ok (.iload_n 2, 1) := by decide +kernel
theorem dX9_crime_3 : decode cX9_crime 3 = .ok (.invokevirtual 205, 3) := by decide +kernel
theorem dX9_crime_6 : decode cX9_crime 6 = .ok (.ifCond .eq 14, 3) := by decide +kernel
theorem dX9_crime_9 : decode cX9_crime 9 = .ok (.iload_n 3, 1) := by decide +kernel
theorem dX9_crime_10 : decode cX9_crime 10 = .ok (.iconst 1, 1) := by decide +kernel
theorem dX9_crime_11 : decode cX9_crime 11 = .ok (.if_icmp .lt 9, 3) := by decide +kernel
theorem dX9_crime_14 : decode cX9_crime 14 = .ok (.iload_n 3, 1) := by decide +kernel
theorem dX9_crime_15 : decode cX9_crime 15 = .ok (.bipush 30, 2) := by decide +kernel
theorem dX9_crime_17 : decode cX9_crime 17 = .ok (.if_icmp .le 5, 3) := by decide +kernel
theorem dX9_crime_20 : decode cX9_crime 20 = .ok (.iconst (-1), 1) := by decide +kernel
theorem dX9_crime_21 : decode cX9_crime 21 = .ok (.ireturn, 1) := by decide +kernel
theorem dX9_crime_22 : decode cX9_crime 22 = .ok (.iconst 1, 1) := by decide +kernel
theorem dX9_crime_23 : decode cX9_crime 23 = .ok (.istore 4, 2) := by decide +kernel
theorem dX9_crime_25 : decode cX9_crime 25 = .ok (.iload 4, 2) := by decide +kernel
theorem dX9_crime_27 : decode cX9_crime 27 = .ok (.bipush 9, 2) := by decide +kernel
theorem dX9_crime_29 : decode cX9_crime 29 = .ok (.if_icmp .gt 28, 3) := by decide +kernel
theorem dX9_crime_32 : decode cX9_crime 32 = .ok (.aload_n 0, 1) := by decide +kernel
theorem dX9_crime_33 : decode cX9_crime 33 = .ok (.aload_n 0, 1) := by decide +kernel
theorem dX9_crime_34 : decode cX9_crime 34 = .ok (.getfield 58, 3) := by decide +kernel
theorem dX9_crime_37 : decode cX9_crime 37 = .ok (.iload_n 1, 1) := by decide +kernel
theorem dX9_crime_38 : decode cX9_crime 38 = .ok (.iload_n 2, 1) := by decide +kernel
theorem dX9_crime_39 : decode cX9_crime 39 = .ok (.iload 4, 2) := by decide +kernel
theorem dX9_crime_41 : decode cX9_crime 41 = .ok (.invokevirtual 169, 3) := by decide +kernel
theorem dX9_crime_44 : decode cX9_crime 44 = .ok (.iload_n 3, 1) := by decide +kernel
theorem dX9_crime_45 : decode cX9_crime 45 = .ok (.if_icmp .lt 6, 3) := by decide +kernel
theorem dX9_crime_48 : decode cX9_crime 48 = .ok (.iload 4, 2) := by decide +kernel
theorem dX9_crime_50 : decode cX9_crime 50 = .ok (.ireturn, 1) := by decide +kernel
theorem dX9_crime_51 : decode cX9_crime 51 = .ok (.iinc 4 1, 3) := by decide +kernel
theorem dX9_crime_54 : decode cX9_crime 54 = .ok (.goto (-29), 3) := by decide +kernel
theorem dX9_crime_57 : decode cX9_crime 57 = .ok (.iconst (-1), 1) := by decide +kernel
theorem dX9_crime_58 : decode cX9_crime 58 = .ok (.ireturn, 1) := by decide +kernel
theorem dX9_draw_0 : decode cX9_draw 0 = .ok (.aload_n 0, 1) := by decide +kernel
theorem dX9_draw_1 : decode cX9_draw 1 = .ok (.aload_n 0, 1) := by decide +kernel
theorem dX9_draw_2 : decode cX9_draw 2 = .ok (.getfield 104, 3) := by decide +kernel
theorem dX9_draw_5 : decode cX9_draw 5 = .ok (.ldc2_w 425, 3) := by decide +kernel
theorem dX9_draw_8 : decode cX9_draw 8 = .ok (.lmul, 1) := by decide +kernel
theorem dX9_draw_9 : decode cX9_draw 9 = .ok (.ldc2_w 427, 3) := by decide +kernel
theorem dX9_draw_12 : decode cX9_draw 12 = .ok (.ladd, 1) := by decide +kernel
theorem dX9_draw_13 : decode cX9_draw 13 = .ok (.putfield 104, 3) := by decide +kernel
theorem dX9_draw_16 : decode cX9_draw 16 = .ok (.iload_n 1, 1) := by decide +kernel
theorem dX9_draw_17 : decode cX9_draw 17 = .ok (.ifCond .le 17, 3) := by decide +kernel
theorem dX9_draw_20 : decode cX9_draw 20 = .ok (.aload_n 0, 1) := by decide +kernel
theorem dX9_draw_21 : decode cX9_draw 21 = .ok (.getfield 104, 3) := by decide +kernel
theorem dX9_draw_24 : decode cX9_draw 24 = .ok (.bipush 33, 2) := by decide +kernel
theorem dX9_draw_26 : decode cX9_draw 26 = .ok (.lushr, 1) := by decide +kernel
theorem dX9_draw_27 : decode cX9_draw 27 = .ok (.iload_n 1, 1) := by decide +kernel
theorem dX9_draw_28 : decode cX9_draw 28 = .ok (.i2l, 1) := by decide +kernel
theorem dX9_draw_29 : decode cX9_draw 29 = .ok (.lrem, 1) := by decide +kernel
theorem dX9_draw_30 : decode cX9_draw 30 = .ok (.l2i, 1) := by decide +kernel
theorem dX9_draw_31 : decode cX9_draw 31 = .ok (.goto 4, 3) := by decide +kernel
theorem dX9_draw_34 : decode cX9_draw 34 = .ok (.iconst 0, 1) := by decide +kernel
theorem dX9_draw_35 : decode cX9_draw 35 = .ok (.ireturn, 1) := by decide +kernel
theorem dX9_end_0 : decode cX9_end 0 = .ok (.iload_n 1, 1) := by decide +kernel
theorem dX9_end_1 : decode cX9_end 1 = .ok (.ifCond .lt 14, 3) := by decide +kernel
theorem dX9_end_4 : decode cX9_end 4 = .ok (.iload_n 1, 1) := by decide +kernel
theorem dX9_end_5 : decode cX9_end 5 = .ok (.aload_n 0, 1) := by decide +kernel
theorem dX9_end_6 : decode cX9_end 6 = .ok (.getfield 10, 3) := by decide +kernel
theorem dX9_end_9 : decode cX9_end 9 = .ok (.getfield 114, 3) := by decide +kernel
theorem dX9_end_12 : decode cX9_end 12 = .ok (.if_icmp .le 5, 3) := by decide +kernel
theorem dX9_end_15 : decode cX9_end 15 = .ok (.iconst 0, 1) := by decide +kernel
theorem dX9_end_16 : decode cX9_end 16 = .ok (.ireturn, 1) := by decide +kernel
theorem dX9_end_17 : decode cX9_end 17 = .ok (.aload_n 0, 1) := by decide +kernel
theorem dX9_end_18 : decode cX9_end 18 = .ok (.getfield 10, 3) := by decide +kernel
theorem dX9_end_21 : decode cX9_end 21 = .ok (.iload_n 1, 1) := by decide +kernel
theorem dX9_end_22 : decode cX9_end 22 = .ok (.putfield 114, 3) := by decide +kernel
theorem dX9_end_25 : decode cX9_end 25 = .ok (.iconst 1, 1) := by decide +kernel
theorem dX9_end_26 : decode cX9_end 26 = .ok (.ireturn, 1) := by decide +kernel
theorem dX9_eveningIn_0 : decode cX9_eveningIn 0 = .ok (.aload_n 0, 1) := by decide +kernel
theorem dX9_eveningIn_1 : decode cX9_eveningIn 1 = .ok (.invokevirtual 223, 3) := by decide +kernel
theorem dX9_eveningIn_4 : decode cX9_eveningIn 4 = .ok (.ifCond .eq 13, 3) := by decide +kernel
theorem dX9_eveningIn_7 : decode cX9_eveningIn 7 = .ok (.aload_n 1, 1) := by decide +kernel
theorem dX9_eveningIn_8 : decode cX9_eveningIn 8 = .ok (.getfield 227, 3) := by decide +kernel
theorem dX9_eveningIn_11 : decode cX9_eveningIn 11 = .ok (.sipush 999, 3) := by decide +kernel
theorem dX9_eveningIn_14 : decode cX9_eveningIn 14 = .ok (.if_icmp .lt 5, 3) := by decide +kernel
theorem dX9_eveningIn_17 : decode cX9_eveningIn 17 = .ok (.iconst 0, 1) := by decide +kernel
theorem dX9_eveningIn_18 : decode cX9_eveningIn 18 = .ok (.ireturn, 1) := by decide +kernel
theorem dX9_eveningIn_19 : decode cX9_eveningIn 19 = .ok (.aload_n 1, 1) := by decide +kernel
theorem dX9_eveningIn_20 : decode cX9_eveningIn 20 = .ok (.iconst (-1), 1) := by decide +kernel
theorem dX9_eveningIn_21 : decode cX9_eveningIn 21 = .ok (.invokevirtual 233, 3) := by decide +kernel
theorem dX9_eveningIn_24 : decode cX9_eveningIn 24 = .ok (.iconst 1, 1) := by decide +kernel
theorem dX9_eveningIn_25 : decode cX9_eveningIn 25 = .ok (.ireturn, 1) := by decide +kernel
theorem dX3_write_0 : decode cX3_write 0 = .ok (.aload_n 0, 1) := by decide +kernel
theorem dX3_write_1 : decode cX3_write 1 = .ok (.getfield 9, 3) := by decide +kernel
theorem dX3_write_4 : decode cX3_write 4 = .ok (.aload_n 1, 1) := by decide +kernel
theorem dX3_write_5 : decode cX3_write 5 = .ok (.getfield 18, 3) := by decide +kernel
theorem dX3_write_8 : decode cX3_write 8 = .ok (.aload_n 1, 1) := by decide +kernel
theorem dX3_write_9 : decode cX3_write 9 = .ok (.invokevirtual 30, 3) := by decide +kernel
theorem dX3_write_12 : decode cX3_write 12 = .ok (.bipush 9, 2) := by decide +kernel
theorem dX3_write_14 : decode cX3_write 14 = .ok (.ishl, 1) := by decide +kernel
theorem dX3_write_15 : decode cX3_write 15 = .ok (.aload_n 1, 1) := by decide +kernel
theorem dX3_write_16 : decode cX3_write 16 = .ok (.getfield 34, 3) := by decide +kernel
theorem dX3_write_19 : decode cX3_write 19 = .ok (.iconst 3, 1) := by decide +kernel
theorem dX3_write_20 : decode cX3_write 20 = .ok (.ishl, 1) := by decide +kernel
theorem dX3_write_21 : decode cX3_write 21 = .ok (.ior, 1) := by decide +kernel
theorem dX3_write_22 : decode cX3_write 22 = .ok (.aload_n 1, 1) := by decide +kernel
theorem dX3_write_23 : decode cX3_write 23 = .ok (.getfield 37, 3) := by decide +kernel
theorem dX3_write_26 : decode cX3_write 26 = .ok (.ior, 1) := by decide +kernel
theorem dX3_write_27 : decode cX3_write 27 = .ok (.invokestatic 40, 3) := by decide +kernel
theorem dX3_write_30 : decode cX3_write 30 = .ok (.return_, 1) := by decide +kernel
theorem dX9_evening_0 : decode cX9_evening 0 = .ok (.aload_n 0, 1) := by decide +kernel
theorem dX9_evening_1 : decode cX9_evening 1 = .ok (.getfield 75, 3) := by decide +kernel
theorem dX9_evening_4 : decode cX9_evening 4 = .ok (.aload_n 0, 1) := by decide +kernel
theorem dX9_evening_5 : decode cX9_evening 5 = .ok (.getfield 58, 3) := by decide +kernel
theorem dX9_evening_8 : decode cX9_evening 8 = .ok (.invokevirtual 173, 3) := by decide +kernel
theorem dX9_evening_11 : decode cX9_evening 11 = .ok (.aload_n 0, 1) := by decide +kernel
theorem dX9_evening_12 : decode cX9_evening 12 = .ok (.aload_n 0, 1) := by decide +kernel
theorem dX9_evening_13 : decode cX9_evening 13 = .ok (.getfield 58, 3) := by decide +kernel
theorem dX9_evening_16 : decode cX9_evening 16 = .ok (.invokevirtual 188, 3) := by decide +kernel
theorem dX9_evening_19 : decode cX9_evening 19 = .ok (.ifCond .ne 5, 3) := by decide +kernel
theorem dX9_evening_22 : decode cX9_evening 22 = .ok (.iconst (-1), 1) := by decide +kernel
theorem dX9_evening_23 : decode cX9_evening 23 = .ok (.ireturn, 1) := by decide +kernel
theorem dX9_evening_24 : decode cX9_evening 24 = .ok (.aload_n 0, 1) := by decide +kernel
theorem dX9_evening_25 : decode cX9_evening 25 = .ok (.getfield 75, 3) := by decide +kernel
theorem dX9_evening_28 : decode cX9_evening 28 = .ok (.invokevirtual 181, 3) := by decide +kernel
theorem dX9_evening_31 : decode cX9_evening 31 = .ok (.aload_n 0, 1) := by decide +kernel
theorem dX9_evening_32 : decode cX9_evening 32 = .ok (.getfield 82, 3) := by decide +kernel
theorem dX9_evening_35 : decode cX9_evening 35 = .ok (.aload_n 0, 1) := by decide +kernel
theorem dX9_evening_36 : decode cX9_evening 36 = .ok (.getfield 58, 3) := by decide +kernel
theorem dX9_evening_39 : decode cX9_evening 39 = .ok (.invokevirtual 192, 3) := by decide +kernel
theorem dX9_evening_42 : decode cX9_evening 42 = .ok (.aload_n 0, 1) := by decide +kernel
theorem dX9_evening_43 : decode cX9_evening 43 = .ok (.getfield 58, 3) := by decide +kernel
theorem dX9_evening_46 : decode cX9_evening 46 = .ok (.getfield 195, 3) := by decide +kernel
theorem dX9_evening_49 : decode cX9_evening 49 = .ok (.ireturn, 1) := by decide +kernel
theorem dX9_sessionAt_0 : decode cX9_sessionAt 0 = .ok (.iload_n 1, 1) := by decide +kernel
theorem dX9_sessionAt_1 : decode cX9_sessionAt 1 = .ok (.ifCond .lt 21, 3) := by decide +kernel
theorem dX9_sessionAt_4 : decode cX9_sessionAt 4 = .ok (.iload_n 1, 1) := by decide +kernel
theorem dX9_sessionAt_5 : decode cX9_sessionAt 5 = .ok (.aload_n 0, 1) := by decide +kernel
theorem dX9_sessionAt_6 : decode cX9_sessionAt 6 = .ok (.getfield 34, 3) := by decide +kernel
theorem dX9_sessionAt_9 : decode cX9_sessionAt 9 = .ok (.arraylength, 1) := by decide +kernel
theorem dX9_sessionAt_10 : decode cX9_sessionAt 10 = .ok (.if_icmp .ge 12, 3) := by decide +kernel
theorem dX9_sessionAt_13 : decode cX9_sessionAt 13 = .ok (.aload_n 0, 1) := by decide +kernel
theorem dX9_sessionAt_14 : decode cX9_sessionAt 14 = .ok (.getfield 34, 3) := by decide +kernel
theorem dX9_sessionAt_17 : decode cX9_sessionAt 17 = .ok (.iload_n 1, 1) := by decide +kernel
theorem dX9_sessionAt_18 : decode cX9_sessionAt 18 = .ok (.aaload, 1) := by decide +kernel
theorem dX9_sessionAt_19 : decode cX9_sessionAt 19 = .ok (.goto 4, 3) := by decide +kernel
theorem dX9_sessionAt_22 : decode cX9_sessionAt 22 = .ok (.aconst_null, 1) := by decide +kernel
theorem dX9_sessionAt_23 : decode cX9_sessionAt 23 = .ok (.astore_n 2, 1) := by decide +kernel
theorem dX9_sessionAt_24 : decode cX9_sessionAt 24 = .ok (.aload_n 2, 1) := by decide +kernel
theorem dX9_sessionAt_25 : decode cX9_sessionAt 25 = .ok (.ifnonnull 13, 3) := by decide +kernel
theorem dX9_sessionAt_28 : decode cX9_sessionAt 28 = .ok (.new 32, 3) := by decide +kernel
theorem dX9_sessionAt_31 : decode cX9_sessionAt 31 = .ok (.dup, 1) := by decide +kernel
theorem dX9_sessionAt_32 : decode cX9_sessionAt 32 = .ok (.invokespecial 109, 3) := by decide +kernel
theorem dX9_sessionAt_35 : decode cX9_sessionAt 35 = .ok (.goto 4, 3) := by decide +kernel
theorem dX9_sessionAt_38 : decode cX9_sessionAt 38 = .ok (.aload_n 2, 1) := by decide +kernel
theorem dX9_sessionAt_39 : decode cX9_sessionAt 39 = .ok (.areturn, 1) := by decide +kernel
theorem dX0_fillIn_0 : decode cX0_fillIn 0 = .ok (.iconst 0, 1) := by decide +kernel
theorem dX0_fillIn_1 : decode cX0_fillIn 1 = .ok (.istore_n 3, 1) := by decide +kernel
theorem dX0_fillIn_2 : decode cX0_fillIn 2 = .ok (.iload_n 3, 1) := by decide +kernel
theorem dX0_fillIn_3 : decode cX0_fillIn 3 = .ok (.iconst 3, 1) := by decide +kernel
theorem dX0_fillIn_4 : decode cX0_fillIn 4 = .ok (.if_icmp .ge 27, 3) := by decide +kernel
theorem dX0_fillIn_7 : decode cX0_fillIn 7 = .ok (.aload_n 1, 1) := by decide +kernel
theorem dX0_fillIn_8 : decode cX0_fillIn 8 = .ok (.iload_n 2, 1) := by decide +kernel
theorem dX0_fillIn_9 : decode cX0_fillIn 9 = .ok (.iload_n 3, 1) := by decide +kernel
theorem dX0_fillIn_10 : decode cX0_fillIn 10 = .ok (.iadd, 1) := by decide +kernel
theorem dX0_fillIn_11 : decode cX0_fillIn 11 = .ok (.getstatic 71, 3) := by decide +kernel
theorem dX0_fillIn_14 : decode cX0_fillIn 14 = .ok (.iconst 3, 1) := by decide +kernel
theorem dX0_fillIn_15 : decode cX0_fillIn 15 = .ok (.iload_n 0, 1) := by decide +kernel
theorem dX0_fillIn_16 : decode cX0_fillIn 16 = .ok (.imul, 1) := by decide +kernel
theorem dX0_fillIn_17 : decode cX0_fillIn 17 = .ok (.iload_n 3, 1) := by decide +kernel
theorem dX0_fillIn_18 : decode cX0_fillIn 18 = .ok (.iadd, 1) := by decide +kernel
theorem dX0_fillIn_19 : decode cX0_fillIn 19 = .ok (.invokestatic 74, 3) := by decide +kernel
theorem dX0_fillIn_22 : decode cX0_fillIn 22 = .ok (.invokestatic 78, 3) := by decide +kernel
theorem dX0_fillIn_25 : decode cX0_fillIn 25 = .ok (.iinc 3 1, 3) := by decide +kernel
theorem dX0_fillIn_28 : decode cX0_fillIn 28 = .ok (.goto (-26), 3) := by decide +kernel
theorem dX0_fillIn_31 : decode cX0_fillIn 31 = .ok (.return_, 1) := by decide +kernel
theorem dX0_itemOf_0 : decode cX0_itemOf 0 = .ok (.iconst 0, 1) := by decide +kernel
theorem dX0_itemOf_1 : decode cX0_itemOf 1 = .ok (.istore_n 2, 1) := by decide +kernel
theorem dX0_itemOf_2 : decode cX0_itemOf 2 = .ok (.iload_n 2, 1) := by decide +kernel
theorem dX0_itemOf_3 : decode cX0_itemOf 3 = .ok (.iconst 3, 1) := by decide +kernel
theorem dX0_itemOf_4 : decode cX0_itemOf 4 = .ok (.if_icmp .ge 26, 3) := by decide +kernel
theorem dX0_itemOf_7 : decode cX0_itemOf 7 = .ok (.getstatic 103, 3) := by decide +kernel
theorem dX0_itemOf_10 : decode cX0_itemOf 10 = .ok (.iconst 3, 1) := by decide +kernel
theorem dX0_itemOf_11 : decode cX0_itemOf 11 = .ok (.iload_n 0, 1) := by decide +kernel
theorem dX0_itemOf_12 : decode cX0_itemOf 12 = .ok (.imul, 1) := by decide +kernel
theorem dX0_itemOf_13 : decode cX0_itemOf 13 = .ok (.iload_n 2, 1) := by decide +kernel
theorem dX0_itemOf_14 : decode cX0_itemOf 14 = .ok (.iadd, 1) := by decide +kernel
theorem dX0_itemOf_15 : decode cX0_itemOf 15 = .ok (.invokestatic 74, 3) := by decide +kernel
theorem dX0_itemOf_18 : decode cX0_itemOf 18 = .ok (.iload_n 1, 1) := by decide +kernel
theorem dX0_itemOf_19 : decode cX0_itemOf 19 = .ok (.if_icmp .ne 5, 3) := by decide +kernel
theorem dX0_itemOf_22 : decode cX0_itemOf 22 = .ok (.iload_n 2, 1) := by decide +kernel
theorem dX0_itemOf_23 : decode cX0_itemOf 23 = .ok (.ireturn, 1) := by decide +kernel
theorem dX0_itemOf_24 : decode cX0_itemOf 24 = .ok (.iinc 2 1, 3) := by decide +kernel
theorem dX0_itemOf_27 : decode cX0_itemOf 27 = .ok (.goto (-25), 3) := by decide +kernel
theorem dX0_itemOf_30 : decode cX0_itemOf 30 = .ok (.iconst (-1), 1) := by decide +kernel
theorem dX0_itemOf_31 : decode cX0_itemOf 31 = .ok (.ireturn, 1) := by decide +kernel
theorem dX8_fail_0 : decode cX8_fail 0 = .ok (.aload_n 0, 1) := by decide +kernel
theorem dX8_fail_1 : decode cX8_fail 1 = .ok (.aload_n 0, 1) := by decide +kernel
theorem dX8_fail_2 : decode cX8_fail 2 = .ok (.getfield 19, 3) := by decide +kernel
theorem dX8_fail_5 : decode cX8_fail 5 = .ok (.putfield 22, 3) := by decide +kernel
theorem dX8_fail_8 : decode cX8_fail 8 = .ok (.iconst 0, 1) := by decide +kernel
theorem dX8_fail_9 : decode cX8_fail 9 = .ok (.ireturn, 1) := by decide +kernel
theorem dX8_next_0 : decode cX8_next 0 = .ok (.iconst 0, 1) := by decide +kernel
theorem dX8_next_1 : decode cX8_next 1 = .ok (.istore_n 1, 1) := by decide +kernel
theorem dX8_next_2 : decode cX8_next 2 = .ok (.iload_n 1, 1) := by decide +kernel
theorem dX8_next_3 : decode cX8_next 3 = .ok (.sipush 240, 3) := by decide +kernel
theorem dX8_next_6 : decode cX8_next 6 = .ok (.if_icmp .ge 71, 3) := by decide +kernel
theorem dX8_next_9 : decode cX8_next 9 = .ok (.aload_n 0, 1) := by decide +kernel
theorem dX8_next_10 : decode cX8_next 10 = .ok (.getfield 19, 3) := by decide +kernel
theorem dX8_next_13 : decode cX8_next 13 = .ok (.ifCond .lt 64, 3) := by decide +kernel
theorem dX8_next_16 : decode cX8_next 16 = .ok (.aload_n 0, 1) := by decide +kernel
theorem dX8_next_17 : decode cX8_next 17 = .ok (.getfield 19, 3) := by decide +kernel
theorem dX8_next_20 : decode cX8_next 20 = .ok (.aload_n 0, 1) := by decide +kernel
theorem dX8_next_21 : decode cX8_next 21 = .ok (.getfield 15, 3) := by decide +kernel
theorem dX8_next_24 : decode cX8_next 24 = .ok (.if_icmp .ge 53, 3) := by decide +kernel
theorem dX8_next_27 : decode cX8_next 27 = .ok (.aload_n 0, 1) := by decide +kernel
theorem dX8_next_28 : decode cX8_next 28 = .ok (.getfield 19, 3) := by decide +kernel
theorem dX8_next_31 : decode cX8_next 31 = .ok (.sipush 240, 3) := by decide +kernel
theorem dX8_next_34 : decode cX8_next 34 = .ok (.if_icmp .ge 43, 3) := by decide +kernel
theorem dX8_next_37 : decode cX8_next 37 = .ok (.aload_n 0, 1) := by decide +kernel
theorem dX8_next_38 : decode cX8_next 38 = .ok (.getfield 11, 3) := by decide +kernel
theorem dX8_next_41 : decode cX8_next 41 = .ok (.aload_n 0, 1) := by decide +kernel
theorem dX8_next_42 : decode cX8_next 42 = .ok (.getfield 19, 3) := by decide +kernel
theorem dX8_next_45 : decode cX8_next 45 = .ok (.iaload, 1) := by decide +kernel
theorem dX8_next_46 : decode cX8_next 46 = .ok (.bipush 32, 2) := by decide +kernel
theorem dX8_next_48 : decode cX8_next 48 = .ok (.if_icmp .eq 13, 3) := by decide +kernel
theorem dX8_next_51 : decode cX8_next 51 = .ok (.aload_n 0, 1) := by decide +kernel
theorem dX8_next_52 : decode cX8_next 52 = .ok (.getfield 11, 3) := by decide +kernel
theorem dX8_next_55 : decode cX8_next 55 = .ok (.aload_n 0, 1) := by decide +kernel
theorem dX8_next_56 : decode cX8_next 56 = .ok (.getfield 19, 3) := by decide +kernel
theorem dX8_next_59 : decode cX8_next 59 = .ok (.iaload, 1) := by decide +kernel
theorem dX8_next_60 : decode cX8_next 60 = .ok (.ireturn, 1) := by decide +kernel
theorem dX8_next_61 : decode cX8_next 61 = .ok (.aload_n 0, 1) := by decide +kernel
theorem dX8_next_62 : decode cX8_next 62 = .ok (.dup, 1) := by decide +kernel
theorem dX8_next_63 : decode cX8_next 63 = .ok (.getfield 19, 3) := by decide +kernel
theorem dX8_next_66 : decode cX8_next 66 = .ok (.iconst 1, 1) := by decide +kernel
theorem dX8_next_67 : decode cX8_next 67 = .ok (.iadd, 1) := by decide +kernel
theorem dX8_next_68 : decode cX8_next 68 = .ok (.putfield 19, 3) := by decide +kernel
theorem dX8_next_71 : decode cX8_next 71 = .ok (.iinc 1 1, 3) := by decide +kernel
theorem dX8_next_74 : decode cX8_next 74 = .ok (.goto (-72), 3) := by decide +kernel
theorem dX8_next_77 : decode cX8_next 77 = .ok (.iconst 0, 1) := by decide +kernel
theorem dX8_next_78 : decode cX8_next 78 = .ok (.ireturn, 1) := by decide +kernel
theorem dX8_here_0 : decode cX8_here 0 = .ok (.aload_n 0, 1) := by decide +kernel
theorem dX8_here_1 : decode cX8_here 1 = .ok (.getfield 19, 3) := by decide +kernel
theorem dX8_here_4 : decode cX8_here 4 = .ok (.ifCond .lt 36, 3) := by decide +kernel
theorem dX8_here_7 : decode cX8_here 7 = .ok (.aload_n 0, 1) := by decide +kernel
theorem dX8_here_8 : decode cX8_here 8 = .ok (.getfield 19, 3) := by decide +kernel
theorem dX8_here_11 : decode cX8_here 11 = .ok (.aload_n 0, 1) := by decide +kernel
theorem dX8_here_12 : decode cX8_here 12 = .ok (.getfield 15, 3) := by decide +kernel
theorem dX8_here_15 : decode cX8_here 15 = .ok (.if_icmp .ge 25, 3) := by decide +kernel
theorem dX8_here_18 : decode cX8_here 18 = .ok (.aload_n 0, 1) := by decide +kernel
theorem dX8_here_19 : decode cX8_here 19 = .ok (.getfield 19, 3) := by decide +kernel
theorem dX8_here_22 : decode cX8_here 22 = .ok (.sipush 240, 3) := by decide +kernel
theorem dX8_here_25 : decode cX8_here 25 = .ok (.if_icmp .ge 15, 3) := by decide +kernel
theorem dX8_here_28 : decode cX8_here 28 = .ok (.aload_n 0, 1) := by decide +kernel
theorem dX8_here_29 : decode cX8_here 29 = .ok (.getfield 11, 3) := by decide +kernel
theorem dX8_here_32 : decode cX8_here 32 = .ok (.aload_n 0, 1) := by decide +kernel
theorem dX8_here_33 : decode cX8_here 33 = .ok (.getfield 19, 3) := by decide +kernel
theorem dX8_here_36 : decode cX8_here 36 = .ok (.iaload, 1) := by decide +kernel
theorem dX8_here_37 : decode cX8_here 37 = .ok (.goto 4, 3) := by decide +kernel
theorem dX8_here_40 : decode cX8_here 40 = .ok (.iconst 0, 1) := by decide +kernel
theorem dX8_here_41 : decode cX8_here 41 = .ok (.ireturn, 1) := by decide +kernel
theorem dX8_isDigit_0 : decode cX8_isDigit 0 = .ok (.iload_n 0, 1) := by decide +kernel
theorem dX8_isDigit_1 : decode cX8_isDigit 1 = .ok (.bipush 48, 2) := by decide +kernel
theorem dX8_isDigit_3 : decode cX8_isDigit 3 = .ok (.if_icmp .lt 13, 3) := by decide +kernel
theorem dX8_isDigit_6 : decode cX8_isDigit 6 = .ok (.iload_n 0, 1) := by decide +kernel
theorem dX8_isDigit_7 : decode cX8_isDigit 7 = .ok (.bipush 57, 2) := by decide +kernel
theorem dX8_isDigit_9 : decode cX8_isDigit 9 = .ok (.if_icmp .gt 7, 3) := by decide +kernel
theorem dX8_isDigit_12 : decode cX8_isDigit 12 = .ok (.iconst 1, 1) := by decide +kernel
theorem dX8_isDigit_13 : decode cX8_isDigit 13 = .ok (.goto 4, 3) := by decide +kernel
theorem dX8_isDigit_16 : decode cX8_isDigit 16 = .ok (.iconst 0, 1) := by decide +kernel
theorem dX8_isDigit_17 : decode cX8_isDigit 17 = .ok (.ireturn, 1) := by decide +kernel
theorem dX8_number_0 : decode cX8_number 0 = .ok (.aload_n 0, 1) := by decide +kernel
theorem dX8_number_1 : decode cX8_number 1 = .ok (.invokevirtual 29, 3) := by decide +kernel
theorem dX8_number_4 : decode cX8_number 4 = .ok (.istore 4, 2) := by decide +kernel
theorem dX8_number_6 : decode cX8_number 6 = .ok (.iconst 0, 1) := by decide +kernel
theorem dX8_number_7 : decode cX8_number 7 = .ok (.istore 5, 2) := by decide +kernel
theorem dX8_number_9 : decode cX8_number 9 = .ok (.iconst 0, 1) := by decide +kernel
theorem dX8_number_10 : decode cX8_number 10 = .ok (.istore 6, 2) := by decide +kernel
theorem dX8_number_12 : decode cX8_number 12 = .ok (.iload 6, 2) := by decide +kernel
theorem dX8_number_14 : decode cX8_number 14 = .ok (.iload_n 1, 1) := by decide +kernel
theorem dX8_number_15 : decode cX8_number 15 = .ok (.if_icmp .ge 46, 3) := by decide +kernel
theorem dX8_number_18 : decode cX8_number 18 = .ok (.iload 4, 2) := by decide +kernel
theorem dX8_number_20 : decode cX8_number 20 = .ok (.invokestatic 37, 3) := by decide +kernel
theorem dX8_number_23 : decode cX8_number 23 = .ok (.ifCond .eq 38, 3) := by decide +kernel
theorem dX8_number_26 : decode cX8_number 26 = .ok (.iload 5, 2) := by decide +kernel
theorem dX8_number_28 : decode cX8_number 28 = .ok (.bipush 10, 2) := by decide +kernel
theorem dX8_number_30 : decode cX8_number 30 = .ok (.imul, 1) := by decide +kernel
theorem dX8_number_31 : decode cX8_number 31 = .ok (.iload 4, 2) := by decide +kernel
theorem dX8_number_33 : decode cX8_number 33 = .ok (.iadd, 1) := by decide +kernel
theorem dX8_number_34 : decode cX8_number 34 = .ok (.bipush 48, 2) := by decide +kernel
theorem dX8_number_36 : decode cX8_number 36 = .ok (.isub, 1) := by decide +kernel
theorem dX8_number_37 : decode cX8_number 37 = .ok (.istore 5, 2) := by decide +kernel
theorem dX8_number_39 : decode cX8_number 39 = .ok (.aload_n 0, 1) := by decide +kernel
theorem dX8_number_40 : decode cX8_number 40 = .ok (.dup, 1) := by decide +kernel
theorem dX8_number_41 : decode cX8_number 41 = .ok (.getfield 19, 3) := by decide +kernel
theorem dX8_number_44 : decode cX8_number 44 = .ok (.iconst 1, 1) := by decide +kernel
theorem dX8_number_45 : decode cX8_number 45 = .ok (.iadd, 1) := by decide +kernel
theorem dX8_number_46 : decode cX8_number 46 = .ok (.putfield 19, 3) := by decide +kernel
theorem dX8_number_49 : decode cX8_number 49 = .ok (.aload_n 0, 1) := by decide +kernel
theorem dX8_number_50 : decode cX8_number 50 = .ok (.invokevirtual 41, 3) := by decide +kernel
theorem dX8_number_53 : decode cX8_number 53 = .ok (.istore 4, 2) := by decide +kernel
theorem dX8_number_55 : decode cX8_number 55 = .ok (.iinc 6 1, 3) := by decide +kernel
theorem dX8_number_58 : decode cX8_number 58 = .ok (.goto (-46), 3) := by decide +kernel
theorem dX8_number_61 : decode cX8_number 61 = .ok (.iload 6, 2) := by decide +kernel
theorem dX8_number_63 : decode cX8_number 63 = .ok (.ifCond .eq 11, 3) := by decide +kernel
theorem dX8_number_66 : decode cX8_number 66 = .ok (.iload 4, 2) := by decide +kernel
theorem dX8_number_68 : decode cX8_number 68 = .ok (.invokestatic 37, 3) := by decide +kernel
theorem dX8_number_71 : decode cX8_number 71 = .ok (.ifCond .eq 10, 3) := by decide +kernel
theorem dX8_number_74 : decode cX8_number 74 = .ok (.aload_n 0, 1) := by decide +kernel
theorem dX8_number_75 : decode cX8_number 75 = .ok (.invokevirtual 33, 3) := by decide +kernel
theorem dX8_number_78 : decode cX8_number 78 = .ok (.pop, 1) := by decide +kernel
theorem dX8_number_79 : decode cX8_number 79 = .ok (.iconst (-1), 1) := by decide +kernel
theorem dX8_number_80 : decode cX8_number 80 = .ok (.ireturn, 1) := by decide +kernel
theorem dX8_number_81 : decode cX8_number 81 = .ok (.iload 5, 2) := by decide +kernel
theorem dX8_number_83 : decode cX8_number 83 = .ok (.iload_n 2, 1) := by decide +kernel
theorem dX8_number_84 : decode cX8_number 84 = .ok (.if_icmp .lt 9, 3) := by decide +kernel
theorem dX8_number_87 : decode cX8_number 87 = .ok (.iload 5, 2) := by decide +kernel
theorem dX8_number_89 : decode cX8_number 89 = .ok (.iload_n 3, 1) := by decide +kernel
theorem dX8_number_90 : decode cX8_number 90 = .ok (.if_icmp .le 20, 3) := by decide +kernel
theorem dX8_number_93 : decode cX8_number 93 = .ok (.aload_n 0, 1) := by decide +kernel
theorem dX8_number_94 : decode cX8_number 94 = .ok (.dup, 1) := by decide +kernel
theorem dX8_number_95 : decode cX8_number 95 = .ok (.getfield 19, 3) := by decide +kernel
theorem dX8_number_98 : decode cX8_number 98 = .ok (.iconst 1, 1) := by decide +kernel
theorem dX8_number_99 : decode cX8_number 99 = .ok (.isub, 1) := by decide +kernel
theorem dX8_number_100 : decode cX8_number 100 = .ok (.putfield 19, 3) := by decide +kernel
theorem dX8_number_103 : decode cX8_number 103 = .ok (.aload_n 0, 1) := by decide +kernel
theorem dX8_number_104 : decode cX8_number 104 = .ok (.invokevirtual 33, 3) := by decide +kernel
theorem dX8_number_107 : decode cX8_number 107 = .ok (.pop, 1) := by decide +kernel
theorem dX8_number_108 : decode cX8_number 108 = .ok (.iconst (-1), 1) := by decide +kernel
theorem dX8_number_109 : decode cX8_number 109 = .ok (.ireturn, 1) := by decide +kernel
theorem dX8_number_110 : decode cX8_number 110 = .ok (.iload 5, 2) := by decide +kernel
theorem dX8_number_112 : decode cX8_number 112 = .ok (.ireturn, 1) := by decide +kernel
theorem dX0_items_0 : decode cX0_items 0 = .ok (.iload_n 1, 1) := by decide +kernel
theorem dX0_items_1 : decode cX0_items 1 = .ok (.aload_n 2, 1) := by decide +kernel
theorem dX0_items_2 : decode cX0_items 2 = .ok (.iload_n 3, 1) := by decide +kernel
theorem dX0_items_3 : decode cX0_items 3 = .ok (.invokestatic 32, 3) := by decide +kernel
theorem dX0_items_6 : decode cX0_items 6 = .ok (.aload_n 0, 1) := by decide +kernel
theorem dX0_items_7 : decode cX0_items 7 = .ok (.dup, 1) := by decide +kernel
theorem dX0_items_8 : decode cX0_items 8 = .ok (.getfield 82, 3) := by decide +kernel
theorem dX0_items_11 : decode cX0_items 11 = .ok (.iconst 1, 1) := by decide +kernel
theorem dX0_items_12 : decode cX0_items 12 = .ok (.iadd, 1) := by decide +kernel
theorem dX0_items_13 : decode cX0_items 13 = .ok (.putfield 82, 3) := by decide +kernel
theorem dX0_items_16 : decode cX0_items 16 = .ok (.iconst 0, 1) := by decide +kernel
theorem dX0_items_17 : decode cX0_items 17 = .ok (.istore 4, 2) := by decide +kernel
theorem dX0_items_19 : decode cX0_items 19 = .ok (.iconst 0, 1) := by decide +kernel
theorem dX0_items_20 : decode cX0_items 20 = .ok (.istore 5, 2) := by decide +kernel
theorem dX0_items_22 : decode cX0_items 22 = .ok (.iload 5, 2) := by decide +kernel
theorem dX0_items_24 : decode cX0_items 24 = .ok (.iconst 3, 1) := by decide +kernel
theorem dX0_items_25 : decode cX0_items 25 = .ok (.if_icmp .gt 126, 3) := by decide +kernel
theorem dX0_items_28 : decode cX0_items 28 = .ok (.aload_n 0, 1) := by decide +kernel
theorem dX0_items_29 : decode cX0_items 29 = .ok (.invokevirtual 45, 3) := by decide +kernel
theorem dX0_items_32 : decode cX0_items 32 = .ok (.istore 6, 2) := by decide +kernel
theorem dX0_items_34 : decode cX0_items 34 = .ok (.iload 6, 2) := by decide +kernel
theorem dX0_items_36 : decode cX0_items 36 = .ok (.ifCond .eq 10, 3) := by decide +kernel
theorem dX0_items_39 : decode cX0_items 39 = .ok (.iload 6, 2) := by decide +kernel
theorem dX0_items_41 : decode cX0_items 41 = .ok (.bipush 59, 2) := by decide +kernel
theorem dX0_items_43 : decode cX0_items 43 = .ok (.if_icmp .ne 5, 3) := by decide +kernel
theorem dX0_items_46 : decode cX0_items 46 = .ok (.iconst 1, 1) := by decide +kernel
theorem dX0_items_47 : decode cX0_items 47 = .ok (.ireturn, 1) := by decide +kernel
theorem dX0_items_48 : decode cX0_items 48 = .ok (.iload_n 1, 1) := by decide +kernel
theorem dX0_items_49 : decode cX0_items 49 = .ok (.iload 6, 2) := by decide +kernel
theorem dX0_items_51 : decode cX0_items 51 = .ok (.invokestatic 85, 3) := by decide +kernel
theorem dX0_items_54 : decode cX0_items 54 = .ok (.istore 7, 2) := by decide +kernel
theorem dX0_items_56 : decode cX0_items 56 = .ok (.iload 7, 2) := by decide +kernel
theorem dX0_items_58 : decode cX0_items 58 = .ok (.iconst (-1), 1) := by decide +kernel
theorem dX0_items_59 : decode cX0_items 59 = .ok (.if_icmp .eq 13, 3) := by decide +kernel
theorem dX0_items_62 : decode cX0_items 62 = .ok (.iload 4, 2) := by decide +kernel
theorem dX0_items_64 : decode cX0_items 64 = .ok (.iload 7, 2) := by decide +kernel
theorem dX0_items_66 : decode cX0_items 66 = .ok (.invokestatic 89, 3) := by decide +kernel
theorem dX0_items_69 : decode cX0_items 69 = .ok (.ifCond .eq 8, 3) := by decide +kernel
theorem dX0_items_72 : decode cX0_items 72 = .ok (.aload_n 0, 1) := by decide +kernel
theorem dX0_items_73 : decode cX0_items 73 = .ok (.invokevirtual 53, 3) := by decide +kernel
theorem dX0_items_76 : decode cX0_items 76 = .ok (.ireturn, 1) := by decide +kernel
theorem dX0_items_77 : decode cX0_items 77 = .ok (.iload 4, 2) := by decide +kernel
theorem dX0_items_79 : decode cX0_items 79 = .ok (.iconst 1, 1) := by decide +kernel
theorem dX0_items_80 : decode cX0_items 80 = .ok (.iload 7, 2) := by decide +kernel
theorem dX0_items_82 : decode cX0_items 82 = .ok (.ishl, 1) := by decide +kernel
theorem dX0_items_83 : decode cX0_items 83 = .ok (.ior, 1) := by decide +kernel
theorem dX0_items_84 : decode cX0_items 84 = .ok (.istore 4, 2) := by decide +kernel
theorem dX0_items_86 : decode cX0_items 86 = .ok (.aload_n 0, 1) := by decide +kernel
theorem dX0_items_87 : decode cX0_items 87 = .ok (.dup, 1) := by decide +kernel
theorem dX0_items_88 : decode cX0_items 88 = .ok (.getfield 82, 3) := by decide +kernel
theorem dX0_items_91 : decode cX0_items 91 = .ok (.iconst 1, 1) := by decide +kernel
theorem dX0_items_92 : decode cX0_items 92 = .ok (.iadd, 1) := by decide +kernel
theorem dX0_items_93 : decode cX0_items 93 = .ok (.putfield 82, 3) := by decide +kernel
theorem dX0_items_96 : decode cX0_items 96 = .ok (.aload_n 0, 1) := by decide +kernel
theorem dX0_items_97 : decode cX0_items 97 = .ok (.iconst 2, 1) := by decide +kernel
theorem dX0_items_98 : decode cX0_items 98 = .ok (.getstatic 93, 3) := by decide +kernel
theorem dX0_items_101 : decode cX0_items 101 = .ok (.iconst 3, 1) := by decide +kernel
theorem dX0_items_102 : decode cX0_items 102 = .ok (.iload_n 1, 1) := by decide +kernel
theorem dX0_items_103 : decode cX0_items 103 = .ok (.imul, 1) := by decide +kernel
theorem dX0_items_104 : decode cX0_items 104 = .ok (.iload 7, 2) := by decide +kernel
theorem dX0_items_106 : decode cX0_items 106 = .ok (.iadd, 1) := by decide +kernel
theorem dX0_items_107 : decode cX0_items 107 = .ok (.invokestatic 74, 3) := by decide +kernel
theorem dX0_items_110 : decode cX0_items 110 = .ok (.getstatic 96, 3) := by decide +kernel
theorem dX0_items_113 : decode cX0_items 113 = .ok (.iconst 3, 1) := by decide +kernel
theorem dX0_items_114 : decode cX0_items 114 = .ok (.iload_n 1, 1) := by decide +kernel
theorem dX0_items_115 : decode cX0_items 115 = .ok (.imul, 1) := by decide +kernel
theorem dX0_items_116 : decode cX0_items 116 = .ok (.iload 7, 2) := by decide +kernel
theorem dX0_items_118 : decode cX0_items 118 = .ok (.iadd, 1) := by decide +kernel
theorem dX0_items_119 : decode cX0_items 119 = .ok (.invokestatic 74, 3) := by decide +kernel
theorem dX0_items_122 : decode cX0_items 122 = .ok (.invokevirtual 99, 3) := by decide +kernel
theorem dX0_items_125 : decode cX0_items 125 = .ok (.istore 8, 2) := by decide +kernel
theorem dX0_items_127 : decode cX0_items 127 = .ok (.iload 8, 2) := by decide +kernel
theorem dX0_items_129 : decode cX0_items 129 = .ok (.iconst (-1), 1) := by decide +kernel
theorem dX0_items_130 : decode cX0_items 130 = .ok (.if_icmp .ne 5, 3) := by decide +kernel
theorem dX0_items_133 : decode cX0_items 133 = .ok (.iconst 0, 1) := by decide +kernel
theorem dX0_items_134 : decode cX0_items 134 = .ok (.ireturn, 1) := by decide +kernel
theorem dX0_items_135 : decode cX0_items 135 = .ok (.aload_n 2, 1) := by decide +kernel
theorem dX0_items_136 : decode cX0_items 136 = .ok (.iload_n 3, 1) := by decide +kernel
theorem dX0_items_137 : decode cX0_items 137 = .ok (.iload 7, 2) := by decide +kernel
theorem dX0_items_139 : decode cX0_items 139 = .ok (.iadd, 1) := by decide +kernel
theorem dX0_items_140 : decode cX0_items 140 = .ok (.iload 8, 2) := by decide +kernel
theorem dX0_items_142 : decode cX0_items 142 = .ok (.invokestatic 78, 3) := by decide +kernel
theorem dX0_items_145 : decode cX0_items 145 = .ok (.iinc 5 1, 3) := by decide +kernel
theorem dX0_items_148 : decode cX0_items 148 = .ok (.goto (-126), 3) := by decide +kernel
theorem dX0_items_151 : decode cX0_items 151 = .ok (.aload_n 0, 1) := by decide +kernel
theorem dX0_items_152 : decode cX0_items 152 = .ok (.invokevirtual 53, 3) := by decide +kernel
theorem dX0_items_155 : decode cX0_items 155 = .ok (.ireturn, 1) := by decide +kernel
theorem dX0_clause_0 : decode cX0_clause 0 = .ok (.aload_n 1, 1) := by decide +kernel
theorem dX0_clause_1 : decode cX0_clause 1 = .ok (.invokevirtual 45, 3) := by decide +kernel
theorem dX0_clause_4 : decode cX0_clause 4 = .ok (.istore_n 2, 1) := by decide +kernel
theorem dX0_clause_5 : decode cX0_clause 5 = .ok (.iload_n 2, 1) := by decide +kernel
theorem dX0_clause_6 : decode cX0_clause 6 = .ok (.bipush 115, 2) := by decide +kernel
theorem dX0_clause_8 : decode cX0_clause 8 = .ok (.if_icmp .ne 26, 3) := by decide +kernel
theorem dX0_clause_11 : decode cX0_clause 11 = .ok (.aload_n 0, 1) := by decide +kernel
theorem dX0_clause_12 : decode cX0_clause 12 = .ok (.getfield 21, 3) := by decide +kernel
theorem dX0_clause_15 : decode cX0_clause 15 = .ok (.ifCond .ne 19, 3) := by decide +kernel
theorem dX0_clause_18 : decode cX0_clause 18 = .ok (.aload_n 0, 1) := by decide +kernel
theorem dX0_clause_19 : decode cX0_clause 19 = .ok (.iconst 1, 1) := by decide +kernel
theorem dX0_clause_20 : decode cX0_clause 20 = .ok (.putfield 21, 3) := by decide +kernel
theorem dX0_clause_23 : decode cX0_clause 23 = .ok (.aload_n 1, 1) := by decide +kernel
theorem dX0_clause_24 : decode cX0_clause 24 = .ok (.iconst 0, 1) := by decide +kernel
theorem dX0_clause_25 : decode cX0_clause 25 = .ok (.aload_n 0, 1) := by decide +kernel
theorem dX0_clause_26 : decode cX0_clause 26 = .ok (.getfield 9, 3) := by decide +kernel
theorem dX0_clause_29 : decode cX0_clause 29 = .ok (.iconst 0, 1) := by decide +kernel
theorem dX0_clause_30 : decode cX0_clause 30 = .ok (.invokestatic 67, 3) := by decide +kernel
theorem dX0_clause_33 : decode cX0_clause 33 = .ok (.ireturn, 1) := by decide +kernel
theorem dX0_clause_34 : decode cX0_clause 34 = .ok (.iload_n 2, 1) := by decide +kernel
theorem dX0_clause_35 : decode cX0_clause 35 = .ok (.bipush 112, 2) := by decide +kernel
theorem dX0_clause_37 : decode cX0_clause 37 = .ok (.if_icmp .ne 40, 3) := by decide +kernel
theorem dX0_clause_40 : decode cX0_clause 40 = .ok (.aload_n 0, 1) := by decide +kernel
theorem dX0_clause_41 : decode cX0_clause 41 = .ok (.getfield 25, 3) := by decide +kernel
theorem dX0_clause_44 : decode cX0_clause 44 = .ok (.bipush 6, 2) := by decide +kernel
theorem dX0_clause_46 : decode cX0_clause 46 = .ok (.if_icmp .ge 31, 3) := by decide +kernel
theorem dX0_clause_49 : decode cX0_clause 49 = .ok (.aload_n 0, 1) := by decide +kernel
theorem dX0_clause_50 : decode cX0_clause 50 = .ok (.dup, 1) := by decide +kernel
theorem dX0_clause_51 : decode cX0_clause 51 = .ok (.getfield 25, 3) := by decide +kernel
theorem dX0_clause_54 : decode cX0_clause 54 = .ok (.iconst 1, 1) := by decide +kernel
theorem dX0_clause_55 : decode cX0_clause 55 = .ok (.iadd, 1) := by decide +kernel
theorem dX0_clause_56 : decode cX0_clause 56 = .ok (.putfield 25, 3) := by decide +kernel
theorem dX0_clause_59 : decode cX0_clause 59 = .ok (.aload_n 1, 1) := by decide +kernel
theorem dX0_clause_60 : decode cX0_clause 60 = .ok (.iconst 1, 1) := by decide +kernel
theorem dX0_clause_61 : decode cX0_clause 61 = .ok (.aload_n 0, 1) := by decide +kernel
theorem dX0_clause_62 : decode cX0_clause 62 = .ok (.getfield 15, 3) := by decide +kernel
theorem dX0_clause_65 : decode cX0_clause 65 = .ok (.iconst 3, 1) := by decide +kernel
theorem dX0_clause_66 : decode cX0_clause 66 = .ok (.aload_n 0, 1) := by decide +kernel
theorem dX0_clause_67 : decode cX0_clause 67 = .ok (.getfield 25, 3) := by decide +kernel
theorem dX0_clause_70 : decode cX0_clause 70 = .ok (.iconst 1, 1) := by decide +kernel
theorem dX0_clause_71 : decode cX0_clause 71 = .ok (.isub, 1) := by decide +kernel
theorem dX0_clause_72 : decode cX0_clause 72 = .ok (.imul, 1) := by decide +kernel
theorem dX0_clause_73 : decode cX0_clause 73 = .ok (.invokestatic 67, 3) := by decide +kernel
theorem dX0_clause_76 : decode cX0_clause 76 = .ok (.ireturn, 1) := by decide +kernel
theorem dX0_clause_77 : decode cX0_clause 77 = .ok (.iload_n 2, 1) := by decide +kernel
theorem dX0_clause_78 : decode cX0_clause 78 = .ok (.bipush 119, 2) := by decide +kernel
theorem dX0_clause_80 : decode cX0_clause 80 = .ok (.if_icmp .ne 40, 3) := by decide +kernel
theorem dX0_clause_83 : decode cX0_clause 83 = .ok (.aload_n 0, 1) := by decide +kernel
theorem dX0_clause_84 : decode cX0_clause 84 = .ok (.getfield 29, 3) := by decide +kernel
theorem dX0_clause_87 : decode cX0_clause 87 = .ok (.bipush 8, 2) := by decide +kernel
theorem dX0_clause_89 : decode cX0_clause 89 = .ok (.if_icmp .ge 31, 3) := by decide +kernel
theorem dX0_clause_92 : decode cX0_clause 92 = .ok (.aload_n 0, 1) := by decide +kernel
theorem dX0_clause_93 : decode cX0_clause 93 = .ok (.dup, 1) := by decide +kernel
theorem dX0_clause_94 : decode cX0_clause 94 = .ok (.getfield 29, 3) := by decide +kernel
theorem dX0_clause_97 : decode cX0_clause 97 = .ok (.iconst 1, 1) := by decide +kernel
theorem dX0_clause_98 : decode cX0_clause 98 = .ok (.iadd, 1) := by decide +kernel
theorem dX0_clause_99 : decode cX0_clause 99 = .ok (.putfield 29, 3) := by decide +kernel
theorem dX0_clause_102 : decode cX0_clause 102 = .ok (.aload_n 1, 1) := by decide +kernel
theorem dX0_clause_103 : decode cX0_clause 103 = .ok (.iconst 2, 1) := by decide +kernel
theorem dX0_clause_104 : decode cX0_clause 104 = .ok (.aload_n 0, 1) := by decide +kernel
theorem dX0_clause_105 : decode cX0_clause 105 = .ok (.getfield 18, 3) := by decide +kernel
theorem dX0_clause_108 : decode cX0_clause 108 = .ok (.iconst 3, 1) := by decide +kernel
theorem dX0_clause_109 : decode cX0_clause 109 = .ok (.aload_n 0, 1) := by decide +kernel
theorem dX0_clause_110 : decode cX0_clause 110 = .ok (.getfield 29, 3) := by decide +kernel
theorem dX0_clause_113 : decode cX0_clause 113 = .ok (.iconst 1, 1) := by decide +kernel
theorem dX0_clause_114 : decode cX0_clause 114 = .ok (.isub, 1) := by decide +kernel
theorem dX0_clause_115 : decode cX0_clause 115 = .ok (.imul, 1) := by decide +kernel
theorem dX0_clause_116 : decode cX0_clause 116 = .ok (.invokestatic 67, 3) := by decide +kernel
theorem dX0_clause_119 : decode cX0_clause 119 = .ok (.ireturn, 1) := by decide +kernel
theorem dX0_clause_120 : decode cX0_clause 120 = .ok (.aload_n 1, 1) := by decide +kernel
theorem dX0_clause_121 : decode cX0_clause 121 = .ok (.invokevirtual 53, 3) := by decide +kernel
theorem dX0_clause_124 : decode cX0_clause 124 = .ok (.ireturn, 1) := by decide +kernel
theorem dX0_isWhole_0 : decode cX0_isWhole 0 = .ok (.aload_n 0, 1) := by decide +kernel
theorem dX0_isWhole_1 : decode cX0_isWhole 1 = .ok (.getfield 25, 3) := by decide +kernel
theorem dX0_isWhole_4 : decode cX0_isWhole 4 = .ok (.iconst 2, 1) := by decide +kernel
theorem dX0_isWhole_5 : decode cX0_isWhole 5 = .ok (.if_icmp .lt 7, 3) := by decide +kernel
theorem dX0_isWhole_8 : decode cX0_isWhole 8 = .ok (.iconst 1, 1) := by decide +kernel
theorem dX0_isWhole_9 : decode cX0_isWhole 9 = .ok (.goto 4, 3) := by decide +kernel
theorem dX0_isWhole_12 : decode cX0_isWhole 12 = .ok (.iconst 0, 1) := by decide +kernel
theorem dX0_isWhole_13 : decode cX0_isWhole 13 = .ok (.istore_n 1, 1) := by decide +kernel
theorem dX0_isWhole_14 : decode cX0_isWhole 14 = .ok (.iconst 0, 1) := by decide +kernel
theorem dX0_isWhole_15 : decode cX0_isWhole 15 = .ok (.istore_n 2, 1) := by decide +kernel
theorem dX0_isWhole_16 : decode cX0_isWhole 16 = .ok (.iload_n 2, 1) := by decide +kernel
theorem dX0_isWhole_17 : decode cX0_isWhole 17 = .ok (.aload_n 0, 1) := by decide +kernel
theorem dX0_isWhole_18 : decode cX0_isWhole 18 = .ok (.getfield 29, 3) := by decide +kernel
theorem dX0_isWhole_21 : decode cX0_isWhole 21 = .ok (.if_icmp .ge 56, 3) := by decide +kernel
theorem dX0_isWhole_24 : decode cX0_isWhole 24 = .ok (.iload_n 1, 1) := by decide +kernel
theorem dX0_isWhole_25 : decode cX0_isWhole 25 = .ok (.ifCond .eq 44, 3) := by decide +kernel
theorem dX0_isWhole_28 : decode cX0_isWhole 28 = .ok (.aload_n 0, 1) := by decide +kernel
theorem dX0_isWhole_29 : decode cX0_isWhole 29 = .ok (.iload_n 2, 1) := by decide +kernel
theorem dX0_isWhole_30 : decode cX0_isWhole 30 = .ok (.invokevirtual 60, 3) := by decide +kernel
theorem dX0_isWhole_33 : decode cX0_isWhole 33 = .ok (.aload_n 0, 1) := by decide +kernel
theorem dX0_isWhole_34 : decode cX0_isWhole 34 = .ok (.getfield 25, 3) := by decide +kernel
theorem dX0_isWhole_37 : decode cX0_isWhole 37 = .ok (.if_icmp .ge 32, 3) := by decide +kernel
theorem dX0_isWhole_40 : decode cX0_isWhole 40 = .ok (.aload_n 0, 1) := by decide +kernel
theorem dX0_isWhole_41 : decode cX0_isWhole 41 = .ok (.iload_n 2, 1) := by decide +kernel
theorem dX0_isWhole_42 : decode cX0_isWhole 42 = .ok (.invokevirtual 64, 3) := by decide +kernel
theorem dX0_isWhole_45 : decode cX0_isWhole 45 = .ok (.aload_n 0, 1) := by decide +kernel
theorem dX0_isWhole_46 : decode cX0_isWhole 46 = .ok (.getfield 25, 3) := by decide +kernel
theorem dX0_isWhole_49 : decode cX0_isWhole 49 = .ok (.if_icmp .ge 20, 3) := by decide +kernel
theorem dX0_isWhole_52 : decode cX0_isWhole 52 = .ok (.aload_n 0, 1) := by decide +kernel
theorem dX0_isWhole_53 : decode cX0_isWhole 53 = .ok (.iload_n 2, 1) := by decide +kernel
theorem dX0_isWhole_54 : decode cX0_isWhole 54 = .ok (.invokevirtual 60, 3) := by decide +kernel
theorem dX0_isWhole_57 : decode cX0_isWhole 57 = .ok (.aload_n 0, 1) := by decide +kernel
theorem dX0_isWhole_58 : decode cX0_isWhole 58 = .ok (.iload_n 2, 1) := by decide +kernel
theorem dX0_isWhole_59 : decode cX0_isWhole 59 = .ok (.invokevirtual 64, 3) := by decide +kernel
theorem dX0_isWhole_62 : decode cX0_isWhole 62 = .ok (.if_icmp .eq 7, 3) := by decide +kernel
theorem dX0_isWhole_65 : decode cX0_isWhole 65 = .ok (.iconst 1, 1) := by decide +kernel
theorem dX0_isWhole_66 : decode cX0_isWhole 66 = .ok (.goto 4, 3) := by decide +kernel
theorem dX0_isWhole_69 : decode cX0_isWhole 69 = .ok (.iconst 0, 1) := by decide +kernel
theorem dX0_isWhole_70 : decode cX0_isWhole 70 = .ok (.istore_n 1, 1) := by decide +kernel
theorem dX0_isWhole_71 : decode cX0_isWhole 71 = .ok (.iinc 2 1, 3) := by decide +kernel
theorem dX0_isWhole_74 : decode cX0_isWhole 74 = .ok (.goto (-58), 3) := by decide +kernel
theorem dX0_isWhole_77 : decode cX0_isWhole 77 = .ok (.iload_n 1, 1) := by decide +kernel
theorem dX0_isWhole_78 : decode cX0_isWhole 78 = .ok (.ireturn, 1) := by decide +kernel
theorem dX8_need_0 : decode cX8_need 0 = .ok (.aload_n 0, 1) := by decide +kernel
theorem dX8_need_1 : decode cX8_need 1 = .ok (.invokevirtual 29, 3) := by decide +kernel
theorem dX8_need_4 : decode cX8_need 4 = .ok (.iload_n 1, 1) := by decide +kernel
theorem dX8_need_5 : decode cX8_need 5 = .ok (.if_icmp .eq 8, 3) := by decide +kernel
theorem dX8_need_8 : decode cX8_need 8 = .ok (.aload_n 0, 1) := by decide +kernel
theorem dX8_need_9 : decode cX8_need 9 = .ok (.invokevirtual 33, 3) := by decide +kernel
theorem dX8_need_12 : decode cX8_need 12 = .ok (.ireturn, 1) := by decide +kernel
theorem dX8_need_13 : decode cX8_need 13 = .ok (.aload_n 0, 1) := by decide +kernel
theorem dX8_need_14 : decode cX8_need 14 = .ok (.dup, 1) := by decide +kernel
theorem dX8_need_15 : decode cX8_need 15 = .ok (.getfield 19, 3) := by decide +kernel
theorem dX8_need_18 : decode cX8_need 18 = .ok (.iconst 1, 1) := by decide +kernel
theorem dX8_need_19 : decode cX8_need 19 = .ok (.iadd, 1) := by decide +kernel
theorem dX8_need_20 : decode cX8_need 20 = .ok (.putfield 19, 3) := by decide +kernel
theorem dX8_need_23 : decode cX8_need 23 = .ok (.iconst 1, 1) := by decide +kernel
theorem dX8_need_24 : decode cX8_need 24 = .ok (.ireturn, 1) := by decide +kernel
theorem dX8_start_0 : decode cX8_start 0 = .ok (.aload_n 0, 1) := by decide +kernel
theorem dX8_start_1 : decode cX8_start 1 = .ok (.iconst 0, 1) := by decide +kernel
theorem dX8_start_2 : decode cX8_start 2 = .ok (.putfield 19, 3) := by decide +kernel
theorem dX8_start_5 : decode cX8_start 5 = .ok (.aload_n 0, 1) := by decide +kernel
theorem dX8_start_6 : decode cX8_start 6 = .ok (.iconst (-1), 1) := by decide +kernel
theorem dX8_start_7 : decode cX8_start 7 = .ok (.putfield 22, 3) := by decide +kernel
theorem dX8_start_10 : decode cX8_start 10 = .ok (.return_, 1) := by decide +kernel
theorem dX0_read_0 : decode cX0_read 0 = .ok (.aload_n 0, 1) := by decide +kernel
theorem dX0_read_1 : decode cX0_read 1 = .ok (.iconst 0, 1) := by decide +kernel
theorem dX0_read_2 : decode cX0_read 2 = .ok (.putfield 21, 3) := by decide +kernel
theorem dX0_read_5 : decode cX0_read 5 = .ok (.aload_n 0, 1) := by decide +kernel
theorem dX0_read_6 : decode cX0_read 6 = .ok (.iconst 0, 1) := by decide +kernel
theorem dX0_read_7 : decode cX0_read 7 = .ok (.putfield 25, 3) := by decide +kernel
theorem dX0_read_10 : decode cX0_read 10 = .ok (.aload_n 0, 1) := by decide +kernel
theorem dX0_read_11 : decode cX0_read 11 = .ok (.iconst 0, 1) := by decide +kernel
theorem dX0_read_12 : decode cX0_read 12 = .ok (.putfield 29, 3) := by decide +kernel
theorem dX0_read_15 : decode cX0_read 15 = .ok (.iconst 0, 1) := by decide +kernel
theorem dX0_read_16 : decode cX0_read 16 = .ok (.aload_n 0, 1) := by decide +kernel
theorem dX0_read_17 : decode cX0_read 17 = .ok (.getfield 9, 3) := by decide +kernel
theorem dX0_read_20 : decode cX0_read 20 = .ok (.iconst 0, 1) := by decide +kernel
theorem dX0_read_21 : decode cX0_read 21 = .ok (.invokestatic 32, 3) := by decide +kernel
theorem dX0_read_24 : decode cX0_read 24 = .ok (.aload_n 1, 1) := by decide +kernel
theorem dX0_read_25 : decode cX0_read 25 = .ok (.invokevirtual 36, 3) := by decide +kernel
theorem dX0_read_28 : decode cX0_read 28 = .ok (.iconst 0, 1) := by decide +kernel
theorem dX0_read_29 : decode cX0_read 29 = .ok (.istore_n 2, 1) := by decide +kernel
theorem dX0_read_30 : decode cX0_read 30 = .ok (.iload_n 2, 1) := by decide +kernel
theorem dX0_read_31 : decode cX0_read 31 = .ok (.sipush 240, 3) := by decide +kernel
theorem dX0_read_34 : decode cX0_read 34 = .ok (.if_icmp .gt 57, 3) := by decide +kernel
theorem dX0_read_37 : decode cX0_read 37 = .ok (.aload_n 0, 1) := by decide +kernel
theorem dX0_read_38 : decode cX0_read 38 = .ok (.aload_n 1, 1) := by decide +kernel
theorem dX0_read_39 : decode cX0_read 39 = .ok (.invokevirtual 41, 3) := by decide +kernel
theorem dX0_read_42 : decode cX0_read 42 = .ok (.ifCond .ne 5, 3) := by decide +kernel
theorem dX0_read_45 : decode cX0_read 45 = .ok (.iconst 0, 1) := by decide +kernel
theorem dX0_read_46 : decode cX0_read 46 = .ok (.ireturn, 1) := by decide +kernel
theorem dX0_read_47 : decode cX0_read 47 = .ok (.aload_n 1, 1) := by decide +kernel
theorem dX0_read_48 : decode cX0_read 48 = .ok (.invokevirtual 45, 3) := by decide +kernel
theorem dX0_read_51 : decode cX0_read 51 = .ok (.ifCond .ne 23, 3) := by decide +kernel
theorem dX0_read_54 : decode cX0_read 54 = .ok (.aload_n 0, 1) := by decide +kernel
theorem dX0_read_55 : decode cX0_read 55 = .ok (.invokevirtual 49, 3) := by decide +kernel
theorem dX0_read_58 : decode cX0_read 58 = .ok (.ifCond .ne 10, 3) := by decide +kernel
theorem dX0_read_61 : decode cX0_read 61 = .ok (.aload_n 1, 1) := by decide +kernel
theorem dX0_read_62 : decode cX0_read 62 = .ok (.invokevirtual 53, 3) := by decide +kernel
theorem dX0_read_65 : decode cX0_read 65 = .ok (.ifCond .eq 7, 3) := by decide +kernel
theorem dX0_read_68 : decode cX0_read 68 = .ok (.iconst 1, 1) := by decide +kernel
theorem dX0_read_69 : decode cX0_read 69 = .ok (.goto 4, 3) := by decide +kernel
theorem dX0_read_72 : decode cX0_read 72 = .ok (.iconst 0, 1) := by decide +kernel
theorem dX0_read_73 : decode cX0_read 73 = .ok (.ireturn, 1) := by decide +kernel
theorem dX0_read_74 : decode cX0_read 74 = .ok (.aload_n 1, 1) := by decide +kernel
theorem dX0_read_75 : decode cX0_read 75 = .ok (.bipush 59, 2) := by decide +kernel
theorem dX0_read_77 : decode cX0_read 77 = .ok (.invokevirtual 56, 3) := by decide +kernel
theorem dX0_read_80 : decode cX0_read 80 = .ok (.ifCond .ne 5, 3) := by decide +kernel
theorem dX0_read_83 : decode cX0_read 83 = .ok (.iconst 0, 1) := by decide +kernel
theorem dX0_read_84 : decode cX0_read 84 = .ok (.ireturn, 1) := by decide +kernel
theorem dX0_read_85 : decode cX0_read 85 = .ok (.iinc 2 1, 3) := by decide +kernel
theorem dX0_read_88 : decode cX0_read 88 = .ok (.goto (-58), 3) := by decide +kernel
theorem dX0_read_91 : decode cX0_read 91 = .ok (.aload_n 1, 1) := by decide +kernel
theorem dX0_read_92 : decode cX0_read 92 = .ok (.invokevirtual 53, 3) := by decide +kernel
theorem dX0_read_95 : decode cX0_read 95 = .ok (.ireturn, 1) := by decide +kernel
theorem dX2_emit_0 : decode cX2_emit 0 = .ok (.aload_n 0, 1) := by decide +kernel
theorem dX2_emit_1 : decode cX2_emit 1 = .ok (.getfield 18, 3) := by decide +kernel
theorem dX2_emit_4 : decode cX2_emit 4 = .ok (.sipush 256, 3) := by decide +kernel
theorem dX2_emit_7 : decode cX2_emit 7 = .ok (.if_icmp .ge 25, 3) := by decide +kernel
theorem dX2_emit_10 : decode cX2_emit 10 = .ok (.aload_n 0, 1) := by decide +kernel
theorem dX2_emit_11 : decode cX2_emit 11 = .ok (.getfield 11, 3) := by decide +kernel
theorem dX2_emit_14 : decode cX2_emit 14 = .ok (.aload_n 0, 1) := by decide +kernel
theorem dX2_emit_15 : decode cX2_emit 15 = .ok (.getfield 18, 3) := by decide +kernel
theorem dX2_emit_18 : decode cX2_emit 18 = .ok (.iload_n 1, 1) := by decide +kernel
theorem dX2_emit_19 : decode cX2_emit 19 = .ok (.invokestatic 103, 3) := by decide +kernel
theorem dX2_emit_22 : decode cX2_emit 22 = .ok (.aload_n 0, 1) := by decide +kernel
theorem dX2_emit_23 : decode cX2_emit 23 = .ok (.dup, 1) := by decide +kernel
theorem dX2_emit_24 : decode cX2_emit 24 = .ok (.getfield 18, 3) := by decide +kernel
theorem dX2_emit_27 : decode cX2_emit 27 = .ok (.iconst 1, 1) := by decide +kernel
theorem dX2_emit_28 : decode cX2_emit 28 = .ok (.iadd, 1) := by decide +kernel
theorem dX2_emit_29 : decode cX2_emit 29 = .ok (.putfield 18, 3) := by decide +kernel
theorem dX2_emit_32 : decode cX2_emit 32 = .ok (.return_, 1) := by decide +kernel
theorem dX2_isComparing_0 : decode cX2_isComparing 0 = .ok (.iload_n 0, 1) := by decide +kernel
theorem dX2_isComparing_1 : decode cX2_isComparing 1 = .ok (.bipush 61, 2) := by decide +kernel
theorem dX2_isComparing_3 : decode cX2_isComparing 3 = .ok (.if_icmp .eq 15, 3) := by decide +kernel
theorem dX2_isComparing_6 : decode cX2_isComparing 6 = .ok (.iload_n 0, 1) := by decide +kernel
theorem dX2_isComparing_7 : decode cX2_isComparing 7 = .ok (.bipush 60, 2) := by decide +kernel
theorem dX2_isComparing_9 : decode cX2_isComparing 9 = .ok (.if_icmp .eq 9, 3) := by decide +kernel
theorem dX2_isComparing_12 : decode cX2_isComparing 12 = .ok (.iload_n 0, 1) := by decide +kernel
theorem dX2_isComparing_13 : decode cX2_isComparing 13 = .ok (.bipush 62, 2) := by decide +kernel
theorem dX2_isComparing_15 : decode cX2_isComparing 15 = .ok (.if_icmp .ne 7, 3) := by decide +kernel
theorem dX2_isComparing_18 : decode cX2_isComparing 18 = .ok (.iconst 1, 1) := by decide +kernel
theorem dX2_isComparing_19 : decode cX2_isComparing 19 = .ok (.goto 4, 3) := by decide +kernel
theorem dX2_isComparing_22 : decode cX2_isComparing 22 = .ok (.iconst 0, 1) := by decide +kernel
theorem dX2_isComparing_23 : decode cX2_isComparing 23 = .ok (.ireturn, 1) := by decide +kernel
theorem dX2_atom_0 : decode cX2_atom 0 = .ok (.aload_n 1, 1) := by decide +kernel
theorem dX2_atom_1 : decode cX2_atom 1 = .ok (.invokevirtual 34, 3) := by decide +kernel
theorem dX2_atom_4 : decode cX2_atom 4 = .ok (.istore_n 3, 1) := by decide +kernel
theorem dX2_atom_5 : decode cX2_atom 5 = .ok (.iload_n 3, 1) := by decide +kernel
theorem dX2_atom_6 : decode cX2_atom 6 = .ok (.bipush 91, 2) := by decide +kernel
theorem dX2_atom_8 : decode cX2_atom 8 = .ok (.if_icmp .ne 50, 3) := by decide +kernel
theorem dX2_atom_11 : decode cX2_atom 11 = .ok (.iload_n 2, 1) := by decide +kernel
theorem dX2_atom_12 : decode cX2_atom 12 = .ok (.bipush 6, 2) := by decide +kernel
theorem dX2_atom_14 : decode cX2_atom 14 = .ok (.if_icmp .lt 8, 3) := by decide +kernel
theorem dX2_atom_17 : decode cX2_atom 17 = .ok (.aload_n 1, 1) := by decide +kernel
theorem dX2_atom_18 : decode cX2_atom 18 = .ok (.invokevirtual 42, 3) := by decide +kernel
theorem dX2_atom_21 : decode cX2_atom 21 = .ok (.ireturn, 1) := by decide +kernel
theorem dX2_atom_22 : decode cX2_atom 22 = .ok (.aload_n 1, 1) := by decide +kernel
theorem dX2_atom_23 : decode cX2_atom 23 = .ok (.dup, 1) := by decide +kernel
theorem dX2_atom_24 : decode cX2_atom 24 = .ok (.getfield 70, 3) := by decide +kernel
theorem dX2_atom_27 : decode cX2_atom 27 = .ok (.iconst 1, 1) := by decide +kernel
theorem dX2_atom_28 : decode cX2_atom 28 = .ok (.iadd, 1) := by decide +kernel
theorem dX2_atom_29 : decode cX2_atom 29 = .ok (.putfield 70, 3) := by decide +kernel
theorem dX2_atom_32 : decode cX2_atom 32 = .ok (.aload_n 0, 1) := by decide +kernel
theorem dX2_atom_33 : decode cX2_atom 33 = .ok (.aload_n 1, 1) := by decide +kernel
theorem dX2_atom_34 : decode cX2_atom 34 = .ok (.iload_n 2, 1) := by decide +kernel
theorem dX2_atom_35 : decode cX2_atom 35 = .ok (.iconst 1, 1) := by decide +kernel
theorem dX2_atom_36 : decode cX2_atom 36 = .ok (.iadd, 1) := by decide +kernel
theorem dX2_atom_37 : decode cX2_atom 37 = .ok (.invokevirtual 46, 3) := by decide +kernel
theorem dX2_atom_40 : decode cX2_atom 40 = .ok (.ifCond .eq 16, 3) := by decide +kernel
theorem dX2_atom_43 : decode cX2_atom 43 = .ok (.aload_n 1, 1) := by decide +kernel
theorem dX2_atom_44 : decode cX2_atom 44 = .ok (.bipush 93, 2) := by decide +kernel
theorem dX2_atom_46 : decode cX2_atom 46 = .ok (.invokevirtual 38, 3) := by decide +kernel
theorem dX2_atom_49 : decode cX2_atom 49 = .ok (.ifCond .eq 7, 3) := by decide +kernel
theorem dX2_atom_52 : decode cX2_atom 52 = .ok (.iconst 1, 1) := by decide +kernel
theorem dX2_atom_53 : decode cX2_atom 53 = .ok (.goto 4, 3) := by decide +kernel
theorem dX2_atom_56 : decode cX2_atom 56 = .ok (.iconst 0, 1) := by decide +kernel
theorem dX2_atom_57 : decode cX2_atom 57 = .ok (.ireturn, 1) := by decide +kernel
theorem dX2_atom_58 : decode cX2_atom 58 = .ok (.iload_n 3, 1) := by decide +kernel
theorem dX2_atom_59 : decode cX2_atom 59 = .ok (.invokestatic 83, 3) := by decide +kernel
theorem dX2_atom_62 : decode cX2_atom 62 = .ok (.ifCond .eq 40, 3) := by decide +kernel
theorem dX2_atom_65 : decode cX2_atom 65 = .ok (.aload_n 1, 1) := by decide +kernel
theorem dX2_atom_66 : decode cX2_atom 66 = .ok (.iconst 4, 1) := by decide +kernel
theorem dX2_atom_67 : decode cX2_atom 67 = .ok (.iconst 0, 1) := by decide +kernel
theorem dX2_atom_68 : decode cX2_atom 68 = .ok (.sipush 9999, 3) := by decide +kernel
theorem dX2_atom_71 : decode cX2_atom 71 = .ok (.invokevirtual 86, 3) := by decide +kernel
theorem dX2_atom_74 : decode cX2_atom 74 = .ok (.istore 4, 2) := by decide +kernel
theorem dX2_atom_76 : decode cX2_atom 76 = .ok (.aload_n 0, 1) := by decide +kernel
theorem dX2_atom_77 : decode cX2_atom 77 = .ok (.sipush 1000, 3) := by decide +kernel
theorem dX2_atom_80 : decode cX2_atom 80 = .ok (.iconst 0, 1) := by decide +kernel
theorem dX2_atom_81 : decode cX2_atom 81 = .ok (.iload 4, 2) := by decide +kernel
theorem dX2_atom_83 : decode cX2_atom 83 = .ok (.invokestatic 90, 3) := by decide +kernel
theorem dX2_atom_86 : decode cX2_atom 86 = .ok (.iadd, 1) := by decide +kernel
theorem dX2_atom_87 : decode cX2_atom 87 = .ok (.invokevirtual 57, 3) := by decide +kernel
theorem dX2_atom_90 : decode cX2_atom 90 = .ok (.iload 4, 2) := by decide +kernel
theorem dX2_atom_92 : decode cX2_atom 92 = .ok (.iconst (-1), 1) := by decide +kernel
theorem dX2_atom_93 : decode cX2_atom 93 = .ok (.if_icmp .eq 7, 3) := by decide +kernel
theorem dX2_atom_96 : decode cX2_atom 96 = .ok (.iconst 1, 1) := by decide +kernel
theorem dX2_atom_97 : decode cX2_atom 97 = .ok (.goto 4, 3) := by decide +kernel
theorem dX2_atom_100 : decode cX2_atom 100 = .ok (.iconst 0, 1) := by decide +kernel
theorem dX2_atom_101 : decode cX2_atom 101 = .ok (.ireturn, 1) := by decide +kernel
theorem dX2_atom_102 : decode cX2_atom 102 = .ok (.iconst 0, 1) := by decide +kernel
theorem dX2_atom_103 : decode cX2_atom 103 = .ok (.istore 4, 2) := by decide +kernel
theorem dX2_atom_105 : decode cX2_atom 105 = .ok (.iload 4, 2) := by decide +kernel
theorem dX2_atom_107 : decode cX2_atom 107 = .ok (.getstatic 96, 3) := by decide +kernel
theorem dX2_atom_110 : decode cX2_atom 110 = .ok (.arraylength, 1) := by decide +kernel
theorem dX2_atom_111 : decode cX2_atom 111 = .ok (.if_icmp .ge 43, 3) := by decide +kernel
theorem dX2_atom_114 : decode cX2_atom 114 = .ok (.getstatic 96, 3) := by decide +kernel
theorem dX2_atom_117 : decode cX2_atom 117 = .ok (.iload 4, 2) := by decide +kernel
theorem dX2_atom_119 : decode cX2_atom 119 = .ok (.invokestatic 99, 3) := by decide +kernel
theorem dX2_atom_122 : decode cX2_atom 122 = .ok (.iload_n 3, 1) := by decide +kernel
theorem dX2_atom_123 : decode cX2_atom 123 = .ok (.if_icmp .ne 25, 3) := by decide +kernel
theorem dX2_atom_126 : decode cX2_atom 126 = .ok (.aload_n 1, 1) := by decide +kernel
theorem dX2_atom_127 : decode cX2_atom 127 = .ok (.dup, 1) := by decide +kernel
theorem dX2_atom_128 : decode cX2_atom 128 = .ok (.getfield 70, 3) := by decide +kernel
theorem dX2_atom_131 : decode cX2_atom 131 = .ok (.iconst 1, 1) := by decide +kernel
theorem dX2_atom_132 : decode cX2_atom 132 = .ok (.iadd, 1) := by decide +kernel
theorem dX2_atom_133 : decode cX2_atom 133 = .ok (.putfield 70, 3) := by decide +kernel
theorem dX2_atom_136 : decode cX2_atom 136 = .ok (.aload_n 0, 1) := by decide +kernel
theorem dX2_atom_137 : decode cX2_atom 137 = .ok (.sipush 500, 3) := by decide +kernel
theorem dX2_atom_140 : decode cX2_atom 140 = .ok (.iload 4, 2) := by decide +kernel
theorem dX2_atom_142 : decode cX2_atom 142 = .ok (.iadd, 1) := by decide +kernel
theorem dX2_atom_143 : decode cX2_atom 143 = .ok (.invokevirtual 57, 3) := by decide +kernel
theorem dX2_atom_146 : decode cX2_atom 146 = .ok (.iconst 1, 1) := by decide +kernel
theorem dX2_atom_147 : decode cX2_atom 147 = .ok (.ireturn, 1) := by decide +kernel
theorem dX2_atom_148 : decode cX2_atom 148 = .ok (.iinc 4 1, 3) := by decide +kernel
theorem dX2_atom_151 : decode cX2_atom 151 = .ok (.goto (-46), 3) := by decide +kernel
theorem dX2_atom_154 : decode cX2_atom 154 = .ok (.aload_n 1, 1) := by decide +kernel
theorem dX2_atom_155 : decode cX2_atom 155 = .ok (.invokevirtual 42, 3) := by decide +kernel
theorem dX2_atom_158 : decode cX2_atom 158 = .ok (.ireturn, 1) := by decide +kernel
theorem dX2_term_0 : decode cX2_term 0 = .ok (.aload_n 0, 1) := by decide +kernel
theorem dX2_term_1 : decode cX2_term 1 = .ok (.aload_n 1, 1) := by decide +kernel
theorem dX2_term_2 : decode cX2_term 2 = .ok (.iload_n 2, 1) := by decide +kernel
theorem dX2_term_3 : decode cX2_term 3 = .ok (.invokevirtual 80, 3) := by decide +kernel
theorem dX2_term_6 : decode cX2_term 6 = .ok (.ifCond .ne 5, 3) := by decide +kernel
theorem dX2_term_9 : decode cX2_term 9 = .ok (.iconst 0, 1) := by decide +kernel
theorem dX2_term_10 : decode cX2_term 10 = .ok (.ireturn, 1) := by decide +kernel
theorem dX2_term_11 : decode cX2_term 11 = .ok (.iconst 0, 1) := by decide +kernel
theorem dX2_term_12 : decode cX2_term 12 = .ok (.istore_n 3, 1) := by decide +kernel
theorem dX2_term_13 : decode cX2_term 13 = .ok (.iload_n 3, 1) := by decide +kernel
theorem dX2_term_14 : decode cX2_term 14 = .ok (.sipush 240, 3) := by decide +kernel
theorem dX2_term_17 : decode cX2_term 17 = .ok (.if_icmp .ge 58, 3) := by decide +kernel
theorem dX2_term_20 : decode cX2_term 20 = .ok (.aload_n 1, 1) := by decide +kernel
theorem dX2_term_21 : decode cX2_term 21 = .ok (.invokevirtual 34, 3) := by decide +kernel
theorem dX2_term_24 : decode cX2_term 24 = .ok (.istore 4, 2) := by decide +kernel
theorem dX2_term_26 : decode cX2_term 26 = .ok (.iload 4, 2) := by decide +kernel
theorem dX2_term_28 : decode cX2_term 28 = .ok (.bipush 42, 2) := by decide +kernel
theorem dX2_term_30 : decode cX2_term 30 = .ok (.if_icmp .eq 12, 3) := by decide +kernel
theorem dX2_term_33 : decode cX2_term 33 = .ok (.iload 4, 2) := by decide +kernel
theorem dX2_term_35 : decode cX2_term 35 = .ok (.bipush 47, 2) := by decide +kernel
theorem dX2_term_37 : decode cX2_term 37 = .ok (.if_icmp .eq 5, 3) := by decide +kernel
theorem dX2_term_40 : decode cX2_term 40 = .ok (.iconst 1, 1) := by decide +kernel
theorem dX2_term_41 : decode cX2_term 41 = .ok (.ireturn, 1) := by decide +kernel
theorem dX2_term_42 : decode cX2_term 42 = .ok (.aload_n 1, 1) := by decide +kernel
theorem dX2_term_43 : decode cX2_term 43 = .ok (.dup, 1) := by decide +kernel
theorem dX2_term_44 : decode cX2_term 44 = .ok (.getfield 70, 3) := by decide +kernel
theorem dX2_term_47 : decode cX2_term 47 = .ok (.iconst 1, 1) := by decide +kernel
theorem dX2_term_48 : decode cX2_term 48 = .ok (.iadd, 1) := by decide +kernel
theorem dX2_term_49 : decode cX2_term 49 = .ok (.putfield 70, 3) := by decide +kernel
theorem dX2_term_52 : decode cX2_term 52 = .ok (.aload_n 0, 1) := by decide +kernel
theorem dX2_term_53 : decode cX2_term 53 = .ok (.aload_n 1, 1) := by decide +kernel
theorem dX2_term_54 : decode cX2_term 54 = .ok (.iload_n 2, 1) := by decide +kernel
theorem dX2_term_55 : decode cX2_term 55 = .ok (.invokevirtual 80, 3) := by decide +kernel
theorem dX2_term_58 : decode cX2_term 58 = .ok (.ifCond .ne 5, 3) := by decide +kernel
theorem dX2_term_61 : decode cX2_term 61 = .ok (.iconst 0, 1) := by decide +kernel
theorem dX2_term_62 : decode cX2_term 62 = .ok (.ireturn, 1) := by decide +kernel
theorem dX2_term_63 : decode cX2_term 63 = .ok (.aload_n 0, 1) := by decide +kernel
theorem dX2_term_64 : decode cX2_term 64 = .ok (.iload 4, 2) := by decide +kernel
theorem dX2_term_66 : decode cX2_term 66 = .ok (.invokevirtual 57, 3) := by decide +kernel
theorem dX2_term_69 : decode cX2_term 69 = .ok (.iinc 3 1, 3) := by decide +kernel
theorem dX2_term_72 : decode cX2_term 72 = .ok (.goto (-59), 3) := by decide +kernel
theorem dX2_term_75 : decode cX2_term 75 = .ok (.aload_n 1, 1) := by decide +kernel
theorem dX2_term_76 : decode cX2_term 76 = .ok (.invokevirtual 42, 3) := by decide +kernel
theorem dX2_term_79 : decode cX2_term 79 = .ok (.ireturn, 1) := by decide +kernel
theorem dX2_sum_0 : decode cX2_sum 0 = .ok (.aload_n 0, 1) := by decide +kernel
theorem dX2_sum_1 : decode cX2_sum 1 = .ok (.aload_n 1, 1) := by decide +kernel
theorem dX2_sum_2 : decode cX2_sum 2 = .ok (.iload_n 2, 1) := by decide +kernel
theorem dX2_sum_3 : decode cX2_sum 3 = .ok (.invokevirtual 77, 3) := by decide +kernel
theorem dX2_sum_6 : decode cX2_sum 6 = .ok (.ifCond .ne 5, 3) := by decide +kernel
theorem dX2_sum_9 : decode cX2_sum 9 = .ok (.iconst 0, 1) := by decide +kernel
theorem dX2_sum_10 : decode cX2_sum 10 = .ok (.ireturn, 1) := by decide +kernel
theorem dX2_sum_11 : decode cX2_sum 11 = .ok (.iconst 0, 1) := by decide +kernel
theorem dX2_sum_12 : decode cX2_sum 12 = .ok (.istore_n 3, 1) := by decide +kernel
theorem dX2_sum_13 : decode cX2_sum 13 = .ok (.iload_n 3, 1) := by decide +kernel
theorem dX2_sum_14 : decode cX2_sum 14 = .ok (.sipush 240, 3) := by decide +kernel
theorem dX2_sum_17 : decode cX2_sum 17 = .ok (.if_icmp .ge 58, 3) := by decide +kernel
theorem dX2_sum_20 : decode cX2_sum 20 = .ok (.aload_n 1, 1) := by decide +kernel
theorem dX2_sum_21 : decode cX2_sum 21 = .ok (.invokevirtual 34, 3) := by decide +kernel
theorem dX2_sum_24 : decode cX2_sum 24 = .ok (.istore 4, 2) := by decide +kernel
theorem dX2_sum_26 : decode cX2_sum 26 = .ok (.iload 4, 2) := by decide +kernel
theorem dX2_sum_28 : decode cX2_sum 28 = .ok (.bipush 43, 2) := by decide +kernel
theorem dX2_sum_30 : decode cX2_sum 30 = .ok (.if_icmp .eq 12, 3) := by decide +kernel
theorem dX2_sum_33 : decode cX2_sum 33 = .ok (.iload 4, 2) := by decide +kernel
theorem dX2_sum_35 : decode cX2_sum 35 = .ok (.bipush 45, 2) := by decide +kernel
theorem dX2_sum_37 : decode cX2_sum 37 = .ok (.if_icmp .eq 5, 3) := by decide +kernel
theorem dX2_sum_40 : decode cX2_sum 40 = .ok (.iconst 1, 1) := by decide +kernel
theorem dX2_sum_41 : decode cX2_sum 41 = .ok (.ireturn, 1) := by decide +kernel
theorem dX2_sum_42 : decode cX2_sum 42 = .ok (.aload_n 1, 1) := by decide +kernel
theorem dX2_sum_43 : decode cX2_sum 43 = .ok (.dup, 1) := by decide +kernel
theorem dX2_sum_44 : decode cX2_sum 44 = .ok (.getfield 70, 3) := by decide +kernel
theorem dX2_sum_47 : decode cX2_sum 47 = .ok (.iconst 1, 1) := by decide +kernel
theorem dX2_sum_48 : decode cX2_sum 48 = .ok (.iadd, 1) := by decide +kernel
theorem dX2_sum_49 : decode cX2_sum 49 = .ok (.putfield 70, 3) := by decide +kernel
theorem dX2_sum_52 : decode cX2_sum 52 = .ok (.aload_n 0, 1) := by decide +kernel
theorem dX2_sum_53 : decode cX2_sum 53 = .ok (.aload_n 1, 1) := by decide +kernel
theorem dX2_sum_54 : decode cX2_sum 54 = .ok (.iload_n 2, 1) := by decide +kernel
theorem dX2_sum_55 : decode cX2_sum 55 = .ok (.invokevirtual 77, 3) := by decide +kernel
theorem dX2_sum_58 : decode cX2_sum 58 = .ok (.ifCond .ne 5, 3) := by decide +kernel
theorem dX2_sum_61 : decode cX2_sum 61 = .ok (.iconst 0, 1) := by decide +kernel
theorem dX2_sum_62 : decode cX2_sum 62 = .ok (.ireturn, 1) := by decide +kernel
theorem dX2_sum_63 : decode cX2_sum 63 = .ok (.aload_n 0, 1) := by decide +kernel
theorem dX2_sum_64 : decode cX2_sum 64 = .ok (.iload 4, 2) := by decide +kernel
theorem dX2_sum_66 : decode cX2_sum 66 = .ok (.invokevirtual 57, 3) := by decide +kernel
theorem dX2_sum_69 : decode cX2_sum 69 = .ok (.iinc 3 1, 3) := by decide +kernel
theorem dX2_sum_72 : decode cX2_sum 72 = .ok (.goto (-59), 3) := by decide +kernel
theorem dX2_sum_75 : decode cX2_sum 75 = .ok (.aload_n 1, 1) := by decide +kernel
theorem dX2_sum_76 : decode cX2_sum 76 = .ok (.invokevirtual 42, 3) := by decide +kernel
theorem dX2_sum_79 : decode cX2_sum 79 = .ok (.ireturn, 1) := by decide +kernel
theorem dX2_moreUnits_0 : decode cX2_moreUnits 0 = .ok (.iconst 0, 1) := by decide +kernel
theorem dX2_moreUnits_1 : decode cX2_moreUnits 1 = .ok (.istore_n 3, 1) := by decide +kernel
theorem dX2_moreUnits_2 : decode cX2_moreUnits 2 = .ok (.iload_n 3, 1) := by decide +kernel
theorem dX2_moreUnits_3 : decode cX2_moreUnits 3 = .ok (.sipush 240, 3) := by decide +kernel
theorem dX2_moreUnits_6 : decode cX2_moreUnits 6 = .ok (.if_icmp .ge 46, 3) := by decide +kernel
theorem dX2_moreUnits_9 : decode cX2_moreUnits 9 = .ok (.aload_n 1, 1) := by decide +kernel
theorem dX2_moreUnits_10 : decode cX2_moreUnits 10 = .ok (.invokevirtual 34, 3) := by decide +kernel
theorem dX2_moreUnits_13 : decode cX2_moreUnits 13 = .ok (.bipush 38, 2) := by decide +kernel
theorem dX2_moreUnits_15 : decode cX2_moreUnits 15 = .ok (.if_icmp .ne 37, 3) := by decide +kernel
theorem dX2_moreUnits_18 : decode cX2_moreUnits 18 = .ok (.aload_n 1, 1) := by decide +kernel
theorem dX2_moreUnits_19 : decode cX2_moreUnits 19 = .ok (.dup, 1) := by decide +kernel
theorem dX2_moreUnits_20 : decode cX2_moreUnits 20 = .ok (.getfield 70, 3) := by decide +kernel
theorem dX2_moreUnits_23 : decode cX2_moreUnits 23 = .ok (.iconst 1, 1) := by decide +kernel
theorem dX2_moreUnits_24 : decode cX2_moreUnits 24 = .ok (.iadd, 1) := by decide +kernel
theorem dX2_moreUnits_25 : decode cX2_moreUnits 25 = .ok (.putfield 70, 3) := by decide +kernel
theorem dX2_moreUnits_28 : decode cX2_moreUnits 28 = .ok (.aload_n 0, 1) := by decide +kernel
theorem dX2_moreUnits_29 : decode cX2_moreUnits 29 = .ok (.aload_n 1, 1) := by decide +kernel
theorem dX2_moreUnits_30 : decode cX2_moreUnits 30 = .ok (.iload_n 2, 1) := by decide +kernel
theorem dX2_moreUnits_31 : decode cX2_moreUnits 31 = .ok (.iconst 0, 1) := by decide +kernel
theorem dX2_moreUnits_32 : decode cX2_moreUnits 32 = .ok (.invokevirtual 61, 3) := by decide +kernel
theorem dX2_moreUnits_35 : decode cX2_moreUnits 35 = .ok (.ifCond .ne 5, 3) := by decide +kernel
theorem dX2_moreUnits_38 : decode cX2_moreUnits 38 = .ok (.iconst 0, 1) := by decide +kernel
theorem dX2_moreUnits_39 : decode cX2_moreUnits 39 = .ok (.ireturn, 1) := by decide +kernel
theorem dX2_moreUnits_40 : decode cX2_moreUnits 40 = .ok (.aload_n 0, 1) := by decide +kernel
theorem dX2_moreUnits_41 : decode cX2_moreUnits 41 = .ok (.bipush 38, 2) := by decide +kernel
theorem dX2_moreUnits_43 : decode cX2_moreUnits 43 = .ok (.invokevirtual 57, 3) := by decide +kernel
theorem dX2_moreUnits_46 : decode cX2_moreUnits 46 = .ok (.iinc 3 1, 3) := by decide +kernel
theorem dX2_moreUnits_49 : decode cX2_moreUnits 49 = .ok (.goto (-47), 3) := by decide +kernel
theorem dX2_moreUnits_52 : decode cX2_moreUnits 52 = .ok (.iconst 1, 1) := by decide +kernel
theorem dX2_moreUnits_53 : decode cX2_moreUnits 53 = .ok (.ireturn, 1) := by decide +kernel
theorem dX2_moreTruths_0 : decode cX2_moreTruths 0 = .ok (.iconst 0, 1) := by decide +kernel
theorem dX2_moreTruths_1 : decode cX2_moreTruths 1 = .ok (.istore_n 3, 1) := by decide +kernel
theorem dX2_moreTruths_2 : decode cX2_moreTruths 2 = .ok (.iload_n 3, 1) := by decide +kernel
theorem dX2_moreTruths_3 : decode cX2_moreTruths 3 = .ok (.sipush 240, 3) := by decide +kernel
theorem dX2_moreTruths_6 : decode cX2_moreTruths 6 = .ok (.if_icmp .ge 55, 3) := by decide +kernel
theorem dX2_moreTruths_9 : decode cX2_moreTruths 9 = .ok (.aload_n 1, 1) := by decide +kernel
theorem dX2_moreTruths_10 : decode cX2_moreTruths 10 = .ok (.invokevirtual 34, 3) := by decide +kernel
theorem dX2_moreTruths_13 : decode cX2_moreTruths 13 = .ok (.bipush 124, 2) := by decide +kernel
theorem dX2_moreTruths_15 : decode cX2_moreTruths 15 = .ok (.if_icmp .ne 46, 3) := by decide +kernel
theorem dX2_moreTruths_18 : decode cX2_moreTruths 18 = .ok (.aload_n 1, 1) := by decide +kernel
theorem dX2_moreTruths_19 : decode cX2_moreTruths 19 = .ok (.dup, 1) := by decide +kernel
theorem dX2_moreTruths_20 : decode cX2_moreTruths 20 = .ok (.getfield 70, 3) := by decide +kernel
theorem dX2_moreTruths_23 : decode cX2_moreTruths 23 = .ok (.iconst 1, 1) := by decide +kernel
theorem dX2_moreTruths_24 : decode cX2_moreTruths 24 = .ok (.iadd, 1) := by decide +kernel
theorem dX2_moreTruths_25 : decode cX2_moreTruths 25 = .ok (.putfield 70, 3) := by decide +kernel
theorem dX2_moreTruths_28 : decode cX2_moreTruths 28 = .ok (.aload_n 0, 1) := by decide +kernel
theorem dX2_moreTruths_29 : decode cX2_moreTruths 29 = .ok (.aload_n 1, 1) := by decide +kernel
theorem dX2_moreTruths_30 : decode cX2_moreTruths 30 = .ok (.iload_n 2, 1) := by decide +kernel
theorem dX2_moreTruths_31 : decode cX2_moreTruths 31 = .ok (.iconst 0, 1) := by decide +kernel
theorem dX2_moreTruths_32 : decode cX2_moreTruths 32 = .ok (.invokevirtual 61, 3) := by decide +kernel
theorem dX2_moreTruths_35 : decode cX2_moreTruths 35 = .ok (.ifCond .eq 12, 3) := by decide +kernel
theorem dX2_moreTruths_38 : decode cX2_moreTruths 38 = .ok (.aload_n 0, 1) := by decide +kernel
theorem dX2_moreTruths_39 : decode cX2_moreTruths 39 = .ok (.aload_n 1, 1) := by decide +kernel
theorem dX2_moreTruths_40 : decode cX2_moreTruths 40 = .ok (.iload_n 2, 1) := by decide +kernel
theorem dX2_moreTruths_41 : decode cX2_moreTruths 41 = .ok (.invokevirtual 64, 3) := by decide +kernel
theorem dX2_moreTruths_44 : decode cX2_moreTruths 44 = .ok (.ifCond .ne 5, 3) := by decide +kernel
theorem dX2_moreTruths_47 : decode cX2_moreTruths 47 = .ok (.iconst 0, 1) := by decide +kernel
theorem dX2_moreTruths_48 : decode cX2_moreTruths 48 = .ok (.ireturn, 1) := by decide +kernel
theorem dX2_moreTruths_49 : decode cX2_moreTruths 49 = .ok (.aload_n 0, 1) := by decide +kernel
theorem dX2_moreTruths_50 : decode cX2_moreTruths 50 = .ok (.bipush 124, 2) := by decide +kernel
theorem dX2_moreTruths_52 : decode cX2_moreTruths 52 = .ok (.invokevirtual 57, 3) := by decide +kernel
theorem dX2_moreTruths_55 : decode cX2_moreTruths 55 = .ok (.iinc 3 1, 3) := by decide +kernel
theorem dX2_moreTruths_58 : decode cX2_moreTruths 58 = .ok (.goto (-56), 3) := by decide +kernel
theorem dX2_moreTruths_61 : decode cX2_moreTruths 61 = .ok (.iconst 1, 1) := by decide +kernel
theorem dX2_moreTruths_62 : decode cX2_moreTruths 62 = .ok (.ireturn, 1) := by decide +kernel
theorem dX2_condition_0 : decode cX2_condition 0 = .ok (.aload_n 0, 1) := by decide +kernel
theorem dX2_condition_1 : decode cX2_condition 1 = .ok (.aload_n 1, 1) := by decide +kernel
theorem dX2_condition_2 : decode cX2_condition 2 = .ok (.iload_n 2, 1) := by decide +kernel
theorem dX2_condition_3 : decode cX2_condition 3 = .ok (.iload_n 3, 1) := by decide +kernel
theorem dX2_condition_4 : decode cX2_condition 4 = .ok (.invokevirtual 61, 3) := by decide +kernel
theorem dX2_condition_7 : decode cX2_condition 7 = .ok (.ifCond .eq 25, 3) := by decide +kernel
theorem dX2_condition_10 : decode cX2_condition 10 = .ok (.aload_n 0, 1) := by decide +kernel
theorem dX2_condition_11 : decode cX2_condition 11 = .ok (.aload_n 1, 1) := by decide +kernel
theorem dX2_condition_12 : decode cX2_condition 12 = .ok (.iload_n 2, 1) := by decide +kernel
theorem dX2_condition_13 : decode cX2_condition 13 = .ok (.invokevirtual 64, 3) := by decide +kernel
theorem dX2_condition_16 : decode cX2_condition 16 = .ok (.ifCond .eq 16, 3) := by decide +kernel
theorem dX2_condition_19 : decode cX2_condition 19 = .ok (.aload_n 0, 1) := by decide +kernel
theorem dX2_condition_20 : decode cX2_condition 20 = .ok (.aload_n 1, 1) := by decide +kernel
theorem dX2_condition_21 : decode cX2_condition 21 = .ok (.iload_n 2, 1) := by decide +kernel
theorem dX2_condition_22 : decode cX2_condition 22 = .ok (.invokevirtual 67, 3) := by decide +kernel
theorem dX2_condition_25 : decode cX2_condition 25 = .ok (.ifCond .eq 7, 3) := by decide +kernel
theorem dX2_condition_28 : decode cX2_condition 28 = .ok (.iconst 1, 1) := by decide +kernel
theorem dX2_condition_29 : decode cX2_condition 29 = .ok (.goto 4, 3) := by decide +kernel
theorem dX2_condition_32 : decode cX2_condition 32 = .ok (.iconst 0, 1) := by decide +kernel
theorem dX2_condition_33 : decode cX2_condition 33 = .ok (.ireturn, 1) := by decide +kernel
theorem dX2_nested_0 : decode cX2_nested 0 = .ok (.iload_n 2, 1) := by decide +kernel
theorem dX2_nested_1 : decode cX2_nested 1 = .ok (.bipush 6, 2) := by decide +kernel
theorem dX2_nested_3 : decode cX2_nested 3 = .ok (.if_icmp .lt 8, 3) := by decide +kernel
theorem dX2_nested_6 : decode cX2_nested 6 = .ok (.aload_n 1, 1) := by decide +kernel
theorem dX2_nested_7 : decode cX2_nested 7 = .ok (.invokevirtual 42, 3) := by decide +kernel
theorem dX2_nested_10 : decode cX2_nested 10 = .ok (.ireturn, 1) := by decide +kernel
theorem dX2_nested_11 : decode cX2_nested 11 = .ok (.aload_n 1, 1) := by decide +kernel
theorem dX2_nested_12 : decode cX2_nested 12 = .ok (.dup, 1) := by decide +kernel
theorem dX2_nested_13 : decode cX2_nested 13 = .ok (.getfield 70, 3) := by decide +kernel
theorem dX2_nested_16 : decode cX2_nested 16 = .ok (.iconst 1, 1) := by decide +kernel
theorem dX2_nested_17 : decode cX2_nested 17 = .ok (.iadd, 1) := by decide +kernel
theorem dX2_nested_18 : decode cX2_nested 18 = .ok (.putfield 70, 3) := by decide +kernel
theorem dX2_nested_21 : decode cX2_nested 21 = .ok (.iload_n 3, 1) := by decide +kernel
theorem dX2_nested_22 : decode cX2_nested 22 = .ok (.bipush 40, 2) := by decide +kernel
theorem dX2_nested_24 : decode cX2_nested 24 = .ok (.if_icmp .ne 30, 3) := by decide +kernel
theorem dX2_nested_27 : decode cX2_nested 27 = .ok (.aload_n 0, 1) := by decide +kernel
theorem dX2_nested_28 : decode cX2_nested 28 = .ok (.aload_n 1, 1) := by decide +kernel
theorem dX2_nested_29 : decode cX2_nested 29 = .ok (.iload_n 2, 1) := by decide +kernel
theorem dX2_nested_30 : decode cX2_nested 30 = .ok (.iconst 1, 1) := by decide +kernel
theorem dX2_nested_31 : decode cX2_nested 31 = .ok (.iadd, 1) := by decide +kernel
theorem dX2_nested_32 : decode cX2_nested 32 = .ok (.iconst 0, 1) := by decide +kernel
theorem dX2_nested_33 : decode cX2_nested 33 = .ok (.invokevirtual 53, 3) := by decide +kernel
theorem dX2_nested_36 : decode cX2_nested 36 = .ok (.ifCond .eq 16, 3) := by decide +kernel
theorem dX2_nested_39 : decode cX2_nested 39 = .ok (.aload_n 1, 1) := by decide +kernel
theorem dX2_nested_40 : decode cX2_nested 40 = .ok (.bipush 41, 2) := by decide +kernel
theorem dX2_nested_42 : decode cX2_nested 42 = .ok (.invokevirtual 38, 3) := by decide +kernel
theorem dX2_nested_45 : decode cX2_nested 45 = .ok (.ifCond .eq 7, 3) := by decide +kernel
theorem dX2_nested_48 : decode cX2_nested 48 = .ok (.iconst 1, 1) := by decide +kernel
theorem dX2_nested_49 : decode cX2_nested 49 = .ok (.goto 4, 3) := by decide +kernel
theorem dX2_nested_52 : decode cX2_nested 52 = .ok (.iconst 0, 1) := by decide +kernel
theorem dX2_nested_53 : decode cX2_nested 53 = .ok (.ireturn, 1) := by decide +kernel
theorem dX2_nested_54 : decode cX2_nested 54 = .ok (.aload_n 0, 1) := by decide +kernel
theorem dX2_nested_55 : decode cX2_nested 55 = .ok (.aload_n 1, 1) := by decide +kernel
theorem dX2_nested_56 : decode cX2_nested 56 = .ok (.iload_n 2, 1) := by decide +kernel
theorem dX2_nested_57 : decode cX2_nested 57 = .ok (.iconst 1, 1) := by decide +kernel
theorem dX2_nested_58 : decode cX2_nested 58 = .ok (.iadd, 1) := by decide +kernel
theorem dX2_nested_59 : decode cX2_nested 59 = .ok (.iconst 0, 1) := by decide +kernel
theorem dX2_nested_60 : decode cX2_nested 60 = .ok (.invokevirtual 61, 3) := by decide +kernel
theorem dX2_nested_63 : decode cX2_nested 63 = .ok (.ifCond .ne 5, 3) := by decide +kernel
theorem dX2_nested_66 : decode cX2_nested 66 = .ok (.iconst 0, 1) := by decide +kernel
theorem dX2_nested_67 : decode cX2_nested 67 = .ok (.ireturn, 1) := by decide +kernel
theorem dX2_nested_68 : decode cX2_nested 68 = .ok (.aload_n 0, 1) := by decide +kernel
theorem dX2_nested_69 : decode cX2_nested 69 = .ok (.bipush 33, 2) := by decide +kernel
theorem dX2_nested_71 : decode cX2_nested 71 = .ok (.invokevirtual 57, 3) := by decide +kernel
theorem dX2_nested_74 : decode cX2_nested 74 = .ok (.iconst 1, 1) := by decide +kernel
theorem dX2_nested_75 : decode cX2_nested 75 = .ok (.ireturn, 1) := by decide +kernel
theorem dX2_unit_0 : decode cX2_unit 0 = .ok (.aload_n 1, 1) := by decide +kernel
theorem dX2_unit_1 : decode cX2_unit 1 = .ok (.invokevirtual 34, 3) := by decide +kernel
theorem dX2_unit_4 : decode cX2_unit 4 = .ok (.istore 4, 2) := by decide +kernel
theorem dX2_unit_6 : decode cX2_unit 6 = .ok (.iload_n 3, 1) := by decide +kernel
theorem dX2_unit_7 : decode cX2_unit 7 = .ok (.ifCond .ne 26, 3) := by decide +kernel
theorem dX2_unit_10 : decode cX2_unit 10 = .ok (.iload 4, 2) := by decide +kernel
theorem dX2_unit_12 : decode cX2_unit 12 = .ok (.bipush 33, 2) := by decide +kernel
theorem dX2_unit_14 : decode cX2_unit 14 = .ok (.if_icmp .eq 10, 3) := by decide +kernel
theorem dX2_unit_17 : decode cX2_unit 17 = .ok (.iload 4, 2) := by decide +kernel
theorem dX2_unit_19 : decode cX2_unit 19 = .ok (.bipush 40, 2) := by decide +kernel
theorem dX2_unit_21 : decode cX2_unit 21 = .ok (.if_icmp .ne 12, 3) := by decide +kernel
theorem dX2_unit_24 : decode cX2_unit 24 = .ok (.aload_n 0, 1) := by decide +kernel
theorem dX2_unit_25 : decode cX2_unit 25 = .ok (.aload_n 1, 1) := by decide +kernel
theorem dX2_unit_26 : decode cX2_unit 26 = .ok (.iload_n 2, 1) := by decide +kernel
theorem dX2_unit_27 : decode cX2_unit 27 = .ok (.iload 4, 2) := by decide +kernel
theorem dX2_unit_29 : decode cX2_unit 29 = .ok (.invokevirtual 73, 3) := by decide +kernel
theorem dX2_unit_32 : decode cX2_unit 32 = .ok (.ireturn, 1) := by decide +kernel
theorem dX2_unit_33 : decode cX2_unit 33 = .ok (.iload_n 3, 1) := by decide +kernel
theorem dX2_unit_34 : decode cX2_unit 34 = .ok (.ifCond .ne 14, 3) := by decide +kernel
theorem dX2_unit_37 : decode cX2_unit 37 = .ok (.aload_n 0, 1) := by decide +kernel
theorem dX2_unit_38 : decode cX2_unit 38 = .ok (.aload_n 1, 1) := by decide +kernel
theorem dX2_unit_39 : decode cX2_unit 39 = .ok (.iload_n 2, 1) := by decide +kernel
theorem dX2_unit_40 : decode cX2_unit 40 = .ok (.invokevirtual 46, 3) := by decide +kernel
theorem dX2_unit_43 : decode cX2_unit 43 = .ok (.ifCond .ne 5, 3) := by decide +kernel
theorem dX2_unit_46 : decode cX2_unit 46 = .ok (.iconst 0, 1) := by decide +kernel
theorem dX2_unit_47 : decode cX2_unit 47 = .ok (.ireturn, 1) := by decide +kernel
theorem dX2_unit_48 : decode cX2_unit 48 = .ok (.aload_n 1, 1) := by decide +kernel
theorem dX2_unit_49 : decode cX2_unit 49 = .ok (.invokevirtual 34, 3) := by decide +kernel
theorem dX2_unit_52 : decode cX2_unit 52 = .ok (.istore 5, 2) := by decide +kernel
theorem dX2_unit_54 : decode cX2_unit 54 = .ok (.iload 5, 2) := by decide +kernel
theorem dX2_unit_56 : decode cX2_unit 56 = .ok (.invokestatic 50, 3) := by decide +kernel
theorem dX2_unit_59 : decode cX2_unit 59 = .ok (.ifCond .ne 8, 3) := by decide +kernel
theorem dX2_unit_62 : decode cX2_unit 62 = .ok (.aload_n 1, 1) := by decide +kernel
theorem dX2_unit_63 : decode cX2_unit 63 = .ok (.invokevirtual 42, 3) := by decide +kernel
theorem dX2_unit_66 : decode cX2_unit 66 = .ok (.ireturn, 1) := by decide +kernel
theorem dX2_unit_67 : decode cX2_unit 67 = .ok (.aload_n 1, 1) := by decide +kernel
theorem dX2_unit_68 : decode cX2_unit 68 = .ok (.dup, 1) := by decide +kernel
theorem dX2_unit_69 : decode cX2_unit 69 = .ok (.getfield 70, 3) := by decide +kernel
theorem dX2_unit_72 : decode cX2_unit 72 = .ok (.iconst 1, 1) := by decide +kernel
theorem dX2_unit_73 : decode cX2_unit 73 = .ok (.iadd, 1) := by decide +kernel
theorem dX2_unit_74 : decode cX2_unit 74 = .ok (.putfield 70, 3) := by decide +kernel
theorem dX2_unit_77 : decode cX2_unit 77 = .ok (.aload_n 0, 1) := by decide +kernel
theorem dX2_unit_78 : decode cX2_unit 78 = .ok (.aload_n 1, 1) := by decide +kernel
theorem dX2_unit_79 : decode cX2_unit 79 = .ok (.iload_n 2, 1) := by decide +kernel
theorem dX2_unit_80 : decode cX2_unit 80 = .ok (.invokevirtual 46, 3) := by decide +kernel
theorem dX2_unit_83 : decode cX2_unit 83 = .ok (.ifCond .ne 5, 3) := by decide +kernel
theorem dX2_unit_86 : decode cX2_unit 86 = .ok (.iconst 0, 1) := by decide +kernel
theorem dX2_unit_87 : decode cX2_unit 87 = .ok (.ireturn, 1) := by decide +kernel
theorem dX2_unit_88 : decode cX2_unit 88 = .ok (.aload_n 0, 1) := by decide +kernel
theorem dX2_unit_89 : decode cX2_unit 89 = .ok (.iload 5, 2) := by decide +kernel
theorem dX2_unit_91 : decode cX2_unit 91 = .ok (.invokevirtual 57, 3) := by decide +kernel
theorem dX2_unit_94 : decode cX2_unit 94 = .ok (.iconst 1, 1) := by decide +kernel
theorem dX2_unit_95 : decode cX2_unit 95 = .ok (.ireturn, 1) := by decide +kernel
theorem dX2_clause_0 : decode cX2_clause 0 = .ok (.aload_n 1, 1) := by decide +kernel
theorem dX2_clause_1 : decode cX2_clause 1 = .ok (.bipush 121, 2) := by decide +kernel
theorem dX2_clause_3 : decode cX2_clause 3 = .ok (.invokevirtual 38, 3) := by decide +kernel
theorem dX2_clause_6 : decode cX2_clause 6 = .ok (.ifCond .eq 12, 3) := by decide +kernel
theorem dX2_clause_9 : decode cX2_clause 9 = .ok (.aload_n 1, 1) := by decide +kernel
theorem dX2_clause_10 : decode cX2_clause 10 = .ok (.bipush 58, 2) := by decide +kernel
theorem dX2_clause_12 : decode cX2_clause 12 = .ok (.invokevirtual 38, 3) := by decide +kernel
theorem dX2_clause_15 : decode cX2_clause 15 = .ok (.ifCond .ne 5, 3) := by decide +kernel
theorem dX2_clause_18 : decode cX2_clause 18 = .ok (.iconst 0, 1) := by decide +kernel
theorem dX2_clause_19 : decode cX2_clause 19 = .ok (.ireturn, 1) := by decide +kernel
theorem dX2_clause_20 : decode cX2_clause 20 = .ok (.aload_n 1, 1) := by decide +kernel
theorem dX2_clause_21 : decode cX2_clause 21 = .ok (.invokevirtual 34, 3) := by decide +kernel
theorem dX2_clause_24 : decode cX2_clause 24 = .ok (.istore_n 2, 1) := by decide +kernel
theorem dX2_clause_25 : decode cX2_clause 25 = .ok (.iload_n 2, 1) := by decide +kernel
theorem dX2_clause_26 : decode cX2_clause 26 = .ok (.bipush 33, 2) := by decide +kernel
theorem dX2_clause_28 : decode cX2_clause 28 = .ok (.if_icmp .eq 13, 3) := by decide +kernel
theorem dX2_clause_31 : decode cX2_clause 31 = .ok (.iload_n 2, 1) := by decide +kernel
theorem dX2_clause_32 : decode cX2_clause 32 = .ok (.bipush 40, 2) := by decide +kernel
theorem dX2_clause_34 : decode cX2_clause 34 = .ok (.if_icmp .eq 7, 3) := by decide +kernel
theorem dX2_clause_37 : decode cX2_clause 37 = .ok (.iconst 1, 1) := by decide +kernel
theorem dX2_clause_38 : decode cX2_clause 38 = .ok (.goto 4, 3) := by decide +kernel
theorem dX2_clause_41 : decode cX2_clause 41 = .ok (.iconst 0, 1) := by decide +kernel
theorem dX2_clause_42 : decode cX2_clause 42 = .ok (.istore_n 3, 1) := by decide +kernel
theorem dX2_clause_43 : decode cX2_clause 43 = .ok (.iload_n 3, 1) := by decide +kernel
theorem dX2_clause_44 : decode cX2_clause 44 = .ok (.ifCond .eq 14, 3) := by decide +kernel
theorem dX2_clause_47 : decode cX2_clause 47 = .ok (.aload_n 0, 1) := by decide +kernel
theorem dX2_clause_48 : decode cX2_clause 48 = .ok (.aload_n 1, 1) := by decide +kernel
theorem dX2_clause_49 : decode cX2_clause 49 = .ok (.iconst 0, 1) := by decide +kernel
theorem dX2_clause_50 : decode cX2_clause 50 = .ok (.invokevirtual 46, 3) := by decide +kernel
theorem dX2_clause_53 : decode cX2_clause 53 = .ok (.ifCond .ne 5, 3) := by decide +kernel
theorem dX2_clause_56 : decode cX2_clause 56 = .ok (.iconst 0, 1) := by decide +kernel
theorem dX2_clause_57 : decode cX2_clause 57 = .ok (.ireturn, 1) := by decide +kernel
theorem dX2_clause_58 : decode cX2_clause 58 = .ok (.iload_n 3, 1) := by decide +kernel
theorem dX2_clause_59 : decode cX2_clause 59 = .ok (.ifCond .eq 13, 3) := by decide +kernel
theorem dX2_clause_62 : decode cX2_clause 62 = .ok (.aload_n 1, 1) := by decide +kernel
theorem dX2_clause_63 : decode cX2_clause 63 = .ok (.invokevirtual 34, 3) := by decide +kernel
theorem dX2_clause_66 : decode cX2_clause 66 = .ok (.invokestatic 50, 3) := by decide +kernel
theorem dX2_clause_69 : decode cX2_clause 69 = .ok (.ifCond .eq 41, 3) := by decide +kernel
theorem dX2_clause_72 : decode cX2_clause 72 = .ok (.aload_n 0, 1) := by decide +kernel
theorem dX2_clause_73 : decode cX2_clause 73 = .ok (.aload_n 1, 1) := by decide +kernel
theorem dX2_clause_74 : decode cX2_clause 74 = .ok (.iconst 0, 1) := by decide +kernel
theorem dX2_clause_75 : decode cX2_clause 75 = .ok (.iload_n 3, 1) := by decide +kernel
theorem dX2_clause_76 : decode cX2_clause 76 = .ok (.invokevirtual 53, 3) := by decide +kernel
theorem dX2_clause_79 : decode cX2_clause 79 = .ok (.ifCond .eq 12, 3) := by decide +kernel
theorem dX2_clause_82 : decode cX2_clause 82 = .ok (.aload_n 1, 1) := by decide +kernel
theorem dX2_clause_83 : decode cX2_clause 83 = .ok (.bipush 63, 2) := by decide +kernel
theorem dX2_clause_85 : decode cX2_clause 85 = .ok (.invokevirtual 38, 3) := by decide +kernel
theorem dX2_clause_88 : decode cX2_clause 88 = .ok (.ifCond .ne 5, 3) := by decide +kernel
theorem dX2_clause_91 : decode cX2_clause 91 = .ok (.iconst 0, 1) := by decide +kernel
theorem dX2_clause_92 : decode cX2_clause 92 = .ok (.ireturn, 1) := by decide +kernel
theorem dX2_clause_93 : decode cX2_clause 93 = .ok (.aload_n 0, 1) := by decide +kernel
theorem dX2_clause_94 : decode cX2_clause 94 = .ok (.bipush 63, 2) := by decide +kernel
theorem dX2_clause_96 : decode cX2_clause 96 = .ok (.invokevirtual 57, 3) := by decide +kernel
theorem dX2_clause_99 : decode cX2_clause 99 = .ok (.aload_n 0, 1) := by decide +kernel
theorem dX2_clause_100 : decode cX2_clause 100 = .ok (.aload_n 1, 1) := by decide +kernel
theorem dX2_clause_101 : decode cX2_clause 101 = .ok (.iconst 0, 1) := by decide +kernel
theorem dX2_clause_102 : decode cX2_clause 102 = .ok (.invokevirtual 46, 3) := by decide +kernel
theorem dX2_clause_105 : decode cX2_clause 105 = .ok (.ifCond .ne 5, 3) := by decide +kernel
theorem dX2_clause_108 : decode cX2_clause 108 = .ok (.iconst 0, 1) := by decide +kernel
theorem dX2_clause_109 : decode cX2_clause 109 = .ok (.ireturn, 1) := by decide +kernel
theorem dX2_clause_110 : decode cX2_clause 110 = .ok (.aload_n 0, 1) := by decide +kernel
theorem dX2_clause_111 : decode cX2_clause 111 = .ok (.bipush 59, 2) := by decide +kernel
theorem dX2_clause_113 : decode cX2_clause 113 = .ok (.invokevirtual 57, 3) := by decide +kernel
theorem dX2_clause_116 : decode cX2_clause 116 = .ok (.iconst 1, 1) := by decide +kernel
theorem dX2_clause_117 : decode cX2_clause 117 = .ok (.ireturn, 1) := by decide +kernel
theorem dX2_read_0 : decode cX2_read 0 = .ok (.aload_n 0, 1) := by decide +kernel
theorem dX2_read_1 : decode cX2_read 1 = .ok (.iconst 0, 1) := by decide +kernel
theorem dX2_read_2 : decode cX2_read 2 = .ok (.putfield 18, 3) := by decide +kernel
theorem dX2_read_5 : decode cX2_read 5 = .ok (.aload_n 1, 1) := by decide +kernel
theorem dX2_read_6 : decode cX2_read 6 = .ok (.invokevirtual 25, 3) := by decide +kernel
theorem dX2_read_9 : decode cX2_read 9 = .ok (.iconst 0, 1) := by decide +kernel
theorem dX2_read_10 : decode cX2_read 10 = .ok (.istore_n 2, 1) := by decide +kernel
theorem dX2_read_11 : decode cX2_read 11 = .ok (.iload_n 2, 1) := by decide +kernel
theorem dX2_read_12 : decode cX2_read 12 = .ok (.sipush 240, 3) := by decide +kernel
theorem dX2_read_15 : decode cX2_read 15 = .ok (.if_icmp .gt 39, 3) := by decide +kernel
theorem dX2_read_18 : decode cX2_read 18 = .ok (.aload_n 0, 1) := by decide +kernel
theorem dX2_read_19 : decode cX2_read 19 = .ok (.aload_n 1, 1) := by decide +kernel
theorem dX2_read_20 : decode cX2_read 20 = .ok (.invokevirtual 30, 3) := by decide +kernel
theorem dX2_read_23 : decode cX2_read 23 = .ok (.ifCond .ne 5, 3) := by decide +kernel
theorem dX2_read_26 : decode cX2_read 26 = .ok (.iconst 0, 1) := by decide +kernel
theorem dX2_read_27 : decode cX2_read 27 = .ok (.ireturn, 1) := by decide +kernel
theorem dX2_read_28 : decode cX2_read 28 = .ok (.aload_n 1, 1) := by decide +kernel
theorem dX2_read_29 : decode cX2_read 29 = .ok (.invokevirtual 34, 3) := by decide +kernel
theorem dX2_read_32 : decode cX2_read 32 = .ok (.ifCond .ne 5, 3) := by decide +kernel
theorem dX2_read_35 : decode cX2_read 35 = .ok (.iconst 1, 1) := by decide +kernel
theorem dX2_read_36 : decode cX2_read 36 = .ok (.ireturn, 1) := by decide +kernel
theorem dX2_read_37 : decode cX2_read 37 = .ok (.aload_n 1, 1) := by decide +kernel
theorem dX2_read_38 : decode cX2_read 38 = .ok (.bipush 59, 2) := by decide +kernel
theorem dX2_read_40 : decode cX2_read 40 = .ok (.invokevirtual 38, 3) := by decide +kernel
theorem dX2_read_43 : decode cX2_read 43 = .ok (.ifCond .ne 5, 3) := by decide +kernel
theorem dX2_read_46 : decode cX2_read 46 = .ok (.iconst 0, 1) := by decide +kernel
theorem dX2_read_47 : decode cX2_read 47 = .ok (.ireturn, 1) := by decide +kernel
theorem dX2_read_48 : decode cX2_read 48 = .ok (.iinc 2 1, 3) := by decide +kernel
theorem dX2_read_51 : decode cX2_read 51 = .ok (.goto (-40), 3) := by decide +kernel
theorem dX2_read_54 : decode cX2_read 54 = .ok (.aload_n 1, 1) := by decide +kernel
theorem dX2_read_55 : decode cX2_read 55 = .ok (.invokevirtual 42, 3) := by decide +kernel
theorem dX2_read_58 : decode cX2_read 58 = .ok (.ireturn, 1) := by decide +kernel
theorem dX6_digit_0 : decode cX6_digit 0 = .ok (.iconst (-1), 1) := by decide +kernel
theorem dX6_digit_1 : decode cX6_digit 1 = .ok (.istore 4, 2) := by decide +kernel
theorem dX6_digit_3 : decode cX6_digit 3 = .ok (.iload_n 2, 1) := by decide +kernel
theorem dX6_digit_4 : decode cX6_digit 4 = .ok (.iload_n 3, 1) := by decide +kernel
theorem dX6_digit_5 : decode cX6_digit 5 = .ok (.if_icmp .gt 39, 3) := by decide +kernel
theorem dX6_digit_8 : decode cX6_digit 8 = .ok (.aload_n 1, 1) := by decide +kernel
theorem dX6_digit_9 : decode cX6_digit 9 = .ok (.invokevirtual 32, 3) := by decide +kernel
theorem dX6_digit_12 : decode cX6_digit 12 = .ok (.istore 5, 2) := by decide +kernel
theorem dX6_digit_14 : decode cX6_digit 14 = .ok (.iload 5, 2) := by decide +kernel
theorem dX6_digit_16 : decode cX6_digit 16 = .ok (.invokestatic 61, 3) := by decide +kernel
theorem dX6_digit_19 : decode cX6_digit 19 = .ok (.ifCond .ne 8, 3) := by decide +kernel
theorem dX6_digit_22 : decode cX6_digit 22 = .ok (.aload_n 1, 1) := by decide +kernel
theorem dX6_digit_23 : decode cX6_digit 23 = .ok (.invokevirtual 40, 3) := by decide +kernel
theorem dX6_digit_26 : decode cX6_digit 26 = .ok (.ireturn, 1) := by decide +kernel
theorem dX6_digit_27 : decode cX6_digit 27 = .ok (.iload 5, 2) := by decide +kernel
theorem dX6_digit_29 : decode cX6_digit 29 = .ok (.bipush 48, 2) := by decide +kernel
theorem dX6_digit_31 : decode cX6_digit 31 = .ok (.isub, 1) := by decide +kernel
theorem dX6_digit_32 : decode cX6_digit 32 = .ok (.istore 4, 2) := by decide +kernel
theorem dX6_digit_34 : decode cX6_digit 34 = .ok (.aload_n 1, 1) := by decide +kernel
theorem dX6_digit_35 : decode cX6_digit 35 = .ok (.dup, 1) := by decide +kernel
theorem dX6_digit_36 : decode cX6_digit 36 = .ok (.getfield 47, 3) := by decide +kernel
theorem dX6_digit_39 : decode cX6_digit 39 = .ok (.iconst 1, 1) := by decide +kernel
theorem dX6_digit_40 : decode cX6_digit 40 = .ok (.iadd, 1) := by decide +kernel
theorem dX6_digit_41 : decode cX6_digit 41 = .ok (.putfield 47, 3) := by decide +kernel
theorem dX6_digit_44 : decode cX6_digit 44 = .ok (.aload_n 0, 1) := by decide +kernel
theorem dX6_digit_45 : decode cX6_digit 45 = .ok (.getfield 9, 3) := by decide +kernel
theorem dX6_digit_48 : decode cX6_digit 48 = .ok (.iconst 3, 1) := by decide +kernel
theorem dX6_digit_49 : decode cX6_digit 49 = .ok (.aload_n 0, 1) := by decide +kernel
theorem dX6_digit_50 : decode cX6_digit 50 = .ok (.getfield 15, 3) := by decide +kernel
theorem dX6_digit_53 : decode cX6_digit 53 = .ok (.imul, 1) := by decide +kernel
theorem dX6_digit_54 : decode cX6_digit 54 = .ok (.iload_n 2, 1) := by decide +kernel
theorem dX6_digit_55 : decode cX6_digit 55 = .ok (.iadd, 1) := by decide +kernel
theorem dX6_digit_56 : decode cX6_digit 56 = .ok (.iload 4, 2) := by decide +kernel
theorem dX6_digit_58 : decode cX6_digit 58 = .ok (.invokestatic 50, 3) := by decide +kernel
theorem dX6_digit_61 : decode cX6_digit 61 = .ok (.iconst 1, 1) := by decide +kernel
theorem dX6_digit_62 : decode cX6_digit 62 = .ok (.ireturn, 1) := by decide +kernel
