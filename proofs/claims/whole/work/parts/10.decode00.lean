theorem dX9_at_0 : decode cX9_at 0 = .ok (.iload_n 1, 1) := by decide +kernel
theorem dX9_at_1 : decode cX9_at 1 = .ok (.ifCond .lt 15, 3) := by decide +kernel
theorem dX9_at_4 : decode cX9_at 4 = .ok (.iload_n 1, 1) := by decide +kernel
theorem dX9_at_5 : decode cX9_at 5 = .ok (.aload_n 0, 1) := by decide +kernel
theorem dX9_at_6 : decode cX9_at 6 = .ok (.arraylength, 1) := by decide +kernel
theorem dX9_at_7 : decode cX9_at 7 = .ok (.if_icmp .ge 9, 3) := by decide +kernel
theorem dX9_at_10 : decode cX9_at 10 = .ok (.aload_n 0, 1) := by decide +kernel
theorem dX9_at_11 : decode cX9_at 11 = .ok (.iload_n 1, 1) := by decide +kernel
theorem dX9_at_12 : decode cX9_at 12 = .ok (.iaload, 1) := by decide +kernel
theorem dX9_at_13 : decode cX9_at 13 = .ok (.goto 4, 3) := by decide +kernel
theorem dX9_at_16 : decode cX9_at 16 = .ok (.iconst 0, 1) := by decide +kernel
theorem dX9_at_17 : decode cX9_at 17 = .ok (.ireturn, 1) := by decide +kernel
theorem dX0_hardOf_0 : decode cX0_hardOf 0 = .ok (.aload_n 0, 1) := by decide +kernel
theorem dX0_hardOf_1 : decode cX0_hardOf 1 = .ok (.getfield 15, 3) := by decide +kernel
theorem dX0_hardOf_4 : decode cX0_hardOf 4 = .ok (.iconst 3, 1) := by decide +kernel
theorem dX0_hardOf_5 : decode cX0_hardOf 5 = .ok (.iload_n 1, 1) := by decide +kernel
theorem dX0_hardOf_6 : decode cX0_hardOf 6 = .ok (.imul, 1) := by decide +kernel
theorem dX0_hardOf_7 : decode cX0_hardOf 7 = .ok (.iconst 2, 1) := by decide +kernel
theorem dX0_hardOf_8 : decode cX0_hardOf 8 = .ok (.iadd, 1) := by decide +kernel
theorem dX0_hardOf_9 : decode cX0_hardOf 9 = .ok (.invokestatic 74, 3) := by decide +kernel
theorem dX0_hardOf_12 : decode cX0_hardOf 12 = .ok (.ireturn, 1) := by decide +kernel
theorem dX7_boreOf_0 : decode cX7_boreOf 0 = .ok (.aload_n 0, 1) := by decide +kernel
theorem dX7_boreOf_1 : decode cX7_boreOf 1 = .ok (.getfield 18, 3) := by decide +kernel
theorem dX7_boreOf_4 : decode cX7_boreOf 4 = .ok (.iload_n 1, 1) := by decide +kernel
theorem dX7_boreOf_5 : decode cX7_boreOf 5 = .ok (.invokestatic 64, 3) := by decide +kernel
theorem dX7_boreOf_8 : decode cX7_boreOf 8 = .ok (.ireturn, 1) := by decide +kernel
theorem dX7_owes_0 : decode cX7_owes 0 = .ok (.iload_n 1, 1) := by decide +kernel
theorem dX7_owes_1 : decode cX7_owes 1 = .ok (.ifCond .lt 19, 3) := by decide +kernel
theorem dX7_owes_4 : decode cX7_owes 4 = .ok (.iload_n 1, 1) := by decide +kernel
theorem dX7_owes_5 : decode cX7_owes 5 = .ok (.bipush 6, 2) := by decide +kernel
theorem dX7_owes_7 : decode cX7_owes 7 = .ok (.if_icmp .ge 13, 3) := by decide +kernel
theorem dX7_owes_10 : decode cX7_owes 10 = .ok (.iload_n 2, 1) := by decide +kernel
theorem dX7_owes_11 : decode cX7_owes 11 = .ok (.ifCond .lt 9, 3) := by decide +kernel
theorem dX7_owes_14 : decode cX7_owes 14 = .ok (.iload_n 2, 1) := by decide +kernel
theorem dX7_owes_15 : decode cX7_owes 15 = .ok (.bipush 6, 2) := by decide +kernel
theorem dX7_owes_17 : decode cX7_owes 17 = .ok (.if_icmp .lt 5, 3) := by decide +kernel
theorem dX7_owes_20 : decode cX7_owes 20 = .ok (.iconst 0, 1) := by decide +kernel
theorem dX7_owes_21 : decode cX7_owes 21 = .ok (.ireturn, 1) := by decide +kernel
theorem dX7_owes_22 : decode cX7_owes 22 = .ok (.aload_n 0, 1) := by decide +kernel
theorem dX7_owes_23 : decode cX7_owes 23 = .ok (.getfield 9, 3) := by decide +kernel
theorem dX7_owes_26 : decode cX7_owes 26 = .ok (.iload_n 1, 1) := by decide +kernel
theorem dX7_owes_27 : decode cX7_owes 27 = .ok (.bipush 6, 2) := by decide +kernel
theorem dX7_owes_29 : decode cX7_owes 29 = .ok (.imul, 1) := by decide +kernel
theorem dX7_owes_30 : decode cX7_owes 30 = .ok (.iload_n 2, 1) := by decide +kernel
theorem dX7_owes_31 : decode cX7_owes 31 = .ok (.iadd, 1) := by decide +kernel
theorem dX7_owes_32 : decode cX7_owes 32 = .ok (.invokestatic 64, 3) := by decide +kernel
theorem dX7_owes_35 : decode cX7_owes 35 = .ok (.ireturn, 1) := by decide +kernel
theorem dX7_debtOf_0 : decode cX7_debtOf 0 = .ok (.iconst 0, 1) := by decide +kernel
theorem dX7_debtOf_1 : decode cX7_debtOf 1 = .ok (.istore_n 2, 1) := by decide +kernel
theorem dX7_debtOf_2 : decode cX7_debtOf 2 = .ok (.iconst 0, 1) := by decide +kernel
theorem dX7_debtOf_3 : decode cX7_debtOf 3 = .ok (.istore_n 3, 1) := by decide +kernel
theorem dX7_debtOf_4 : decode cX7_debtOf 4 = .ok (.iload_n 3, 1) := by decide +kernel
theorem dX7_debtOf_5 : decode cX7_debtOf 5 = .ok (.aload_n 0, 1) := by decide +kernel
theorem dX7_debtOf_6 : decode cX7_debtOf 6 = .ok (.getfield 24, 3) := by decide +kernel
theorem dX7_debtOf_9 : decode cX7_debtOf 9 = .ok (.if_icmp .ge 18, 3) := by decide +kernel
theorem dX7_debtOf_12 : decode cX7_debtOf 12 = .ok (.iload_n 2, 1) := by decide +kernel
theorem dX7_debtOf_13 : decode cX7_debtOf 13 = .ok (.aload_n 0, 1) := by decide +kernel
theorem dX7_debtOf_14 : decode cX7_debtOf 14 = .ok (.iload_n 1, 1) := by decide +kernel
theorem dX7_debtOf_15 : decode cX7_debtOf 15 = .ok (.iload_n 3, 1) := by decide +kernel
theorem dX7_debtOf_16 : decode cX7_debtOf 16 = .ok (.invokevirtual 79, 3) := by decide +kernel
theorem dX7_debtOf_19 : decode cX7_debtOf 19 = .ok (.iadd, 1) := by decide +kernel
theorem dX7_debtOf_20 : decode cX7_debtOf 20 = .ok (.istore_n 2, 1) := by decide +kernel
theorem dX7_debtOf_21 : decode cX7_debtOf 21 = .ok (.iinc 3 1, 3) := by decide +kernel
theorem dX7_debtOf_24 : decode cX7_debtOf 24 = .ok (.goto (-20), 3) := by decide +kernel
theorem dX7_debtOf_27 : decode cX7_debtOf 27 = .ok (.iload_n 2, 1) := by decide +kernel
theorem dX7_debtOf_28 : decode cX7_debtOf 28 = .ok (.ireturn, 1) := by decide +kernel
theorem dX7_lonelyOf_0 : decode cX7_lonelyOf 0 = .ok (.aload_n 0, 1) := by decide +kernel
theorem dX7_lonelyOf_1 : decode cX7_lonelyOf 1 = .ok (.getfield 15, 3) := by decide +kernel
theorem dX7_lonelyOf_4 : decode cX7_lonelyOf 4 = .ok (.iload_n 1, 1) := by decide +kernel
theorem dX7_lonelyOf_5 : decode cX7_lonelyOf 5 = .ok (.invokestatic 64, 3) := by decide +kernel
theorem dX7_lonelyOf_8 : decode cX7_lonelyOf 8 = .ok (.ireturn, 1) := by decide +kernel
theorem dX9_sideOf_0 : decode cX9_sideOf 0 = .ok (.iload_n 2, 1) := by decide +kernel
theorem dX9_sideOf_1 : decode cX9_sideOf 1 = .ok (.tableswitch 54 0 2 #[27, 36, 45], 27) := by decide +kernel
theorem dX9_sideOf_28 : decode cX9_sideOf 28 = .ok (.aload_n 0, 1) := by decide +kernel
theorem dX9_sideOf_29 : decode cX9_sideOf 29 = .ok (.getfield 58, 3) := by decide +kernel
theorem dX9_sideOf_32 : decode cX9_sideOf 32 = .ok (.iload_n 1, 1) := by decide +kernel
theorem dX9_sideOf_33 : decode cX9_sideOf 33 = .ok (.invokevirtual 142, 3) := by decide +kernel
theorem dX9_sideOf_36 : decode cX9_sideOf 36 = .ok (.ireturn, 1) := by decide +kernel
theorem dX9_sideOf_37 : decode cX9_sideOf 37 = .ok (.aload_n 0, 1) := by decide +kernel
theorem dX9_sideOf_38 : decode cX9_sideOf 38 = .ok (.getfield 58, 3) := by decide +kernel
theorem dX9_sideOf_41 : decode cX9_sideOf 41 = .ok (.iload_n 1, 1) := by decide +kernel
theorem dX9_sideOf_42 : decode cX9_sideOf 42 = .ok (.invokevirtual 145, 3) := by decide +kernel
theorem dX9_sideOf_45 : decode cX9_sideOf 45 = .ok (.ireturn, 1) := by decide +kernel
theorem dX9_sideOf_46 : decode cX9_sideOf 46 = .ok (.aload_n 0, 1) := by decide +kernel
theorem dX9_sideOf_47 : decode cX9_sideOf 47 = .ok (.getfield 19, 3) := by decide +kernel
theorem dX9_sideOf_50 : decode cX9_sideOf 50 = .ok (.iload_n 1, 1) := by decide +kernel
theorem dX9_sideOf_51 : decode cX9_sideOf 51 = .ok (.invokevirtual 148, 3) := by decide +kernel
theorem dX9_sideOf_54 : decode cX9_sideOf 54 = .ok (.ireturn, 1) := by decide +kernel
theorem dX9_sideOf_55 : decode cX9_sideOf 55 = .ok (.aload_n 0, 1) := by decide +kernel
theorem dX9_sideOf_56 : decode cX9_sideOf 56 = .ok (.getfield 58, 3) := by decide +kernel
theorem dX9_sideOf_59 : decode cX9_sideOf 59 = .ok (.iload_n 1, 1) := by decide +kernel
theorem dX9_sideOf_60 : decode cX9_sideOf 60 = .ok (.invokevirtual 151, 3) := by decide +kernel
theorem dX9_sideOf_63 : decode cX9_sideOf 63 = .ok (.ireturn, 1) := by decide +kernel
theorem dX9_foremost_0 : decode cX9_foremost 0 = .ok (.iconst 0, 1) := by decide +kernel
theorem dX9_foremost_1 : decode cX9_foremost 1 = .ok (.istore_n 2, 1) := by decide +kernel
theorem dX9_foremost_2 : decode cX9_foremost 2 = .ok (.iconst 1, 1) := by decide +kernel
theorem dX9_foremost_3 : decode cX9_foremost 3 = .ok (.istore_n 3, 1) := by decide +kernel
theorem dX9_foremost_4 : decode cX9_foremost 4 = .ok (.iload_n 3, 1) := by decide +kernel
theorem dX9_foremost_5 : decode cX9_foremost 5 = .ok (.aload_n 0, 1) := by decide +kernel
theorem dX9_foremost_6 : decode cX9_foremost 6 = .ok (.getfield 58, 3) := by decide +kernel
theorem dX9_foremost_9 : decode cX9_foremost 9 = .ok (.getfield 282, 3) := by decide +kernel
theorem dX9_foremost_12 : decode cX9_foremost 12 = .ok (.if_icmp .ge 26, 3) := by decide +kernel
theorem dX9_foremost_15 : decode cX9_foremost 15 = .ok (.aload_n 0, 1) := by decide +kernel
theorem dX9_foremost_16 : decode cX9_foremost 16 = .ok (.iload_n 3, 1) := by decide +kernel
theorem dX9_foremost_17 : decode cX9_foremost 17 = .ok (.iload_n 1, 1) := by decide +kernel
theorem dX9_foremost_18 : decode cX9_foremost 18 = .ok (.invokevirtual 450, 3) := by decide +kernel
theorem dX9_foremost_21 : decode cX9_foremost 21 = .ok (.aload_n 0, 1) := by decide +kernel
theorem dX9_foremost_22 : decode cX9_foremost 22 = .ok (.iload_n 2, 1) := by decide +kernel
theorem dX9_foremost_23 : decode cX9_foremost 23 = .ok (.iload_n 1, 1) := by decide +kernel
theorem dX9_foremost_24 : decode cX9_foremost 24 = .ok (.invokevirtual 450, 3) := by decide +kernel
theorem dX9_foremost_27 : decode cX9_foremost 27 = .ok (.if_icmp .le 5, 3) := by decide +kernel
theorem dX9_foremost_30 : decode cX9_foremost 30 = .ok (.iload_n 3, 1) := by decide +kernel
theorem dX9_foremost_31 : decode cX9_foremost 31 = .ok (.istore_n 2, 1) := by decide +kernel
theorem dX9_foremost_32 : decode cX9_foremost 32 = .ok (.iinc 3 1, 3) := by decide +kernel
theorem dX9_foremost_35 : decode cX9_foremost 35 = .ok (.goto (-31), 3) := by decide +kernel
theorem dX9_foremost_38 : decode cX9_foremost 38 = .ok (.iload_n 2, 1) := by decide +kernel
theorem dX9_foremost_39 : decode cX9_foremost 39 = .ok (.ireturn, 1) := by decide +kernel
theorem dX9_freePeople_0 : decode cX9_freePeople 0 = .ok (.iconst 0, 1) := by decide +kernel
theorem dX9_freePeople_1 : decode cX9_freePeople 1 = .ok (.istore_n 1, 1) := by decide +kernel
theorem dX9_freePeople_2 : decode cX9_freePeople 2 = .ok (.iconst 0, 1) := by decide +kernel
theorem dX9_freePeople_3 : decode cX9_freePeople 3 = .ok (.istore_n 2, 1) := by decide +kernel
theorem dX9_freePeople_4 : decode cX9_freePeople 4 = .ok (.iload_n 2, 1) := by decide +kernel
theorem dX9_freePeople_5 : decode cX9_freePeople 5 = .ok (.aload_n 0, 1) := by decide +kernel
theorem dX9_freePeople_6 : decode cX9_freePeople 6 = .ok (.getfield 58, 3) := by decide +kernel
theorem dX9_freePeople_9 : decode cX9_freePeople 9 = .ok (.getfield 282, 3) := by decide +kernel
theorem dX9_freePeople_12 : decode cX9_freePeople 12 = .ok (.if_icmp .ge 26, 3) := by decide +kernel
theorem dX9_freePeople_15 : decode cX9_freePeople 15 = .ok (.aload_n 0, 1) := by decide +kernel
theorem dX9_freePeople_16 : decode cX9_freePeople 16 = .ok (.getfield 58, 3) := by decide +kernel
theorem dX9_freePeople_19 : decode cX9_freePeople 19 = .ok (.iload_n 2, 1) := by decide +kernel
theorem dX9_freePeople_20 : decode cX9_freePeople 20 = .ok (.invokevirtual 151, 3) := by decide +kernel
theorem dX9_freePeople_23 : decode cX9_freePeople 23 = .ok (.ifCond .ne 9, 3) := by decide +kernel
theorem dX9_freePeople_26 : decode cX9_freePeople 26 = .ok (.iload_n 1, 1) := by decide +kernel
theorem dX9_freePeople_27 : decode cX9_freePeople 27 = .ok (.iconst 1, 1) := by decide +kernel
theorem dX9_freePeople_28 : decode cX9_freePeople 28 = .ok (.iload_n 2, 1) := by decide +kernel
theorem dX9_freePeople_29 : decode cX9_freePeople 29 = .ok (.ishl, 1) := by decide +kernel
theorem dX9_freePeople_30 : decode cX9_freePeople 30 = .ok (.ior, 1) := by decide +kernel
theorem dX9_freePeople_31 : decode cX9_freePeople 31 = .ok (.istore_n 1, 1) := by decide +kernel
theorem dX9_freePeople_32 : decode cX9_freePeople 32 = .ok (.iinc 2 1, 3) := by decide +kernel
theorem dX9_freePeople_35 : decode cX9_freePeople 35 = .ok (.goto (-31), 3) := by decide +kernel
theorem dX9_freePeople_38 : decode cX9_freePeople 38 = .ok (.iload_n 1, 1) := by decide +kernel
theorem dX9_freePeople_39 : decode cX9_freePeople 39 = .ok (.ireturn, 1) := by decide +kernel
theorem dX9_isTold_0 : decode cX9_isTold 0 = .ok (.aload_n 0, 1) := by decide +kernel
theorem dX9_isTold_1 : decode cX9_isTold 1 = .ok (.getfield 19, 3) := by decide +kernel
theorem dX9_isTold_4 : decode cX9_isTold 4 = .ok (.getfield 391, 3) := by decide +kernel
theorem dX9_isTold_7 : decode cX9_isTold 7 = .ok (.ifCond .le 7, 3) := by decide +kernel
theorem dX9_isTold_10 : decode cX9_isTold 10 = .ok (.iconst 1, 1) := by decide +kernel
theorem dX9_isTold_11 : decode cX9_isTold 11 = .ok (.goto 4, 3) := by decide +kernel
theorem dX9_isTold_14 : decode cX9_isTold 14 = .ok (.iconst 0, 1) := by decide +kernel
theorem dX9_isTold_15 : decode cX9_isTold 15 = .ok (.ireturn, 1) := by decide +kernel
theorem dX9_apartAt_0 : decode cX9_apartAt 0 = .ok (.iload_n 1, 1) := by decide +kernel
theorem dX9_apartAt_1 : decode cX9_apartAt 1 = .ok (.ifCond .lt 21, 3) := by decide +kernel
theorem dX9_apartAt_4 : decode cX9_apartAt 4 = .ok (.iload_n 1, 1) := by decide +kernel
theorem dX9_apartAt_5 : decode cX9_apartAt 5 = .ok (.aload_n 0, 1) := by decide +kernel
theorem dX9_apartAt_6 : decode cX9_apartAt 6 = .ok (.getfield 68, 3) := by decide +kernel
theorem dX9_apartAt_9 : decode cX9_apartAt 9 = .ok (.arraylength, 1) := by decide +kernel
theorem dX9_apartAt_10 : decode cX9_apartAt 10 = .ok (.if_icmp .ge 12, 3) := by decide +kernel
theorem dX9_apartAt_13 : decode cX9_apartAt 13 = .ok (.aload_n 0, 1) := by decide +kernel
theorem dX9_apartAt_14 : decode cX9_apartAt 14 = .ok (.getfield 68, 3) := by decide +kernel
theorem dX9_apartAt_17 : decode cX9_apartAt 17 = .ok (.iload_n 1, 1) := by decide +kernel
theorem dX9_apartAt_18 : decode cX9_apartAt 18 = .ok (.aaload, 1) := by decide +kernel
theorem dX9_apartAt_19 : decode cX9_apartAt 19 = .ok (.goto 4, 3) := by decide +kernel
theorem dX9_apartAt_22 : decode cX9_apartAt 22 = .ok (.aconst_null, 1) := by decide +kernel
theorem dX9_apartAt_23 : decode cX9_apartAt 23 = .ok (.astore_n 2, 1) := by decide +kernel
theorem dX9_apartAt_24 : decode cX9_apartAt 24 = .ok (.aload_n 2, 1) := by decide +kernel
theorem dX9_apartAt_25 : decode cX9_apartAt 25 = .ok (.ifnonnull 13, 3) := by decide +kernel
theorem dX9_apartAt_28 : decode cX9_apartAt 28 = .ok (.new 51, 3) := by decide +kernel
theorem dX9_apartAt_31 : decode cX9_apartAt 31 = .ok (.dup, 1) := by decide +kernel
theorem dX9_apartAt_32 : decode cX9_apartAt 32 = .ok (.invokespecial 53, 3) := by decide +kernel
theorem dX9_apartAt_35 : decode cX9_apartAt 35 = .ok (.goto 4, 3) := by decide +kernel
theorem dX9_apartAt_38 : decode cX9_apartAt 38 = .ok (.aload_n 2, 1) := by decide +kernel
theorem dX9_apartAt_39 : decode cX9_apartAt 39 = .ok (.areturn, 1) := by decide +kernel
theorem dX9_put_0 : decode cX9_put 0 = .ok (.iload_n 1, 1) := by decide +kernel
theorem dX9_put_1 : decode cX9_put 1 = .ok (.ifCond .lt 13, 3) := by decide +kernel
theorem dX9_put_4 : decode cX9_put 4 = .ok (.iload_n 1, 1) := by decide +kernel
theorem dX9_put_5 : decode cX9_put 5 = .ok (.aload_n 0, 1) := by decide +kernel
theorem dX9_put_6 : decode cX9_put 6 = .ok (.arraylength, 1) := by decide +kernel
theorem dX9_put_7 : decode cX9_put 7 = .ok (.if_icmp .ge 7, 3) := by decide +kernel
theorem dX9_put_10 : decode cX9_put 10 = .ok (.aload_n 0, 1) := by decide +kernel
theorem dX9_put_11 : decode cX9_put 11 = .ok (.iload_n 1, 1) := by decide +kernel
theorem dX9_put_12 : decode cX9_put 12 = .ok (.iload_n 2, 1) := by decide +kernel
theorem dX9_put_13 : decode cX9_put 13 = .ok (.iastore, 1) := by decide +kernel
theorem dX9_put_14 : decode cX9_put 14 = .ok (.return_, 1) := by decide +kernel
theorem dX7_copy_0 : decode cX7_copy 0 = .ok (.aload_n 0, 1) := by decide +kernel
theorem dX7_copy_1 : decode cX7_copy 1 = .ok (.aload_n 1, 1) := by decide +kernel
theorem dX7_copy_2 : decode cX7_copy 2 = .ok (.getfield 24, 3) := by decide +kernel
theorem dX7_copy_5 : decode cX7_copy 5 = .ok (.putfield 24, 3) := by decide +kernel
theorem dX7_copy_8 : decode cX7_copy 8 = .ok (.aload_n 0, 1) := by decide +kernel
theorem dX7_copy_9 : decode cX7_copy 9 = .ok (.aload_n 1, 1) := by decide +kernel
theorem dX7_copy_10 : decode cX7_copy 10 = .ok (.getfield 28, 3) := by decide +kernel
theorem dX7_copy_13 : decode cX7_copy 13 = .ok (.putfield 28, 3) := by decide +kernel
theorem dX7_copy_16 : decode cX7_copy 16 = .ok (.aload_n 0, 1) := by decide +kernel
theorem dX7_copy_17 : decode cX7_copy 17 = .ok (.aload_n 1, 1) := by decide +kernel
theorem dX7_copy_18 : decode cX7_copy 18 = .ok (.getfield 31, 3) := by decide +kernel
theorem dX7_copy_21 : decode cX7_copy 21 = .ok (.putfield 31, 3) := by decide +kernel
theorem dX7_copy_24 : decode cX7_copy 24 = .ok (.aload_n 0, 1) := by decide +kernel
theorem dX7_copy_25 : decode cX7_copy 25 = .ok (.aload_n 1, 1) := by decide +kernel
theorem dX7_copy_26 : decode cX7_copy 26 = .ok (.getfield 34, 3) := by decide +kernel
theorem dX7_copy_29 : decode cX7_copy 29 = .ok (.putfield 34, 3) := by decide +kernel
theorem dX7_copy_32 : decode cX7_copy 32 = .ok (.aload_n 0, 1) := by decide +kernel
theorem dX7_copy_33 : decode cX7_copy 33 = .ok (.aload_n 1, 1) := by decide +kernel
theorem dX7_copy_34 : decode cX7_copy 34 = .ok (.getfield 37, 3) := by decide +kernel
theorem dX7_copy_37 : decode cX7_copy 37 = .ok (.putfield 37, 3) := by decide +kernel
theorem dX7_copy_40 : decode cX7_copy 40 = .ok (.iconst 0, 1) := by decide +kernel
theorem dX7_copy_41 : decode cX7_copy 41 = .ok (.istore_n 2, 1) := by decide +kernel
theorem dX7_copy_42 : decode cX7_copy 42 = .ok (.iload_n 2, 1) := by decide +kernel
theorem dX7_copy_43 : decode cX7_copy 43 = .ok (.aload_n 0, 1) := by decide +kernel
theorem dX7_copy_44 : decode cX7_copy 44 = .ok (.getfield 9, 3) := by decide +kernel
theorem dX7_copy_47 : decode cX7_copy 47 = .ok (.arraylength, 1) := by decide +kernel
theorem dX7_copy_48 : decode cX7_copy 48 = .ok (.if_icmp .ge 25, 3) := by decide +kernel
theorem dX7_copy_51 : decode cX7_copy 51 = .ok (.aload_n 0, 1) := by decide +kernel
theorem dX7_copy_52 : decode cX7_copy 52 = .ok (.getfield 9, 3) := by decide +kernel
theorem dX7_copy_55 : decode cX7_copy 55 = .ok (.iload_n 2, 1) := by decide +kernel
theorem dX7_copy_56 : decode cX7_copy 56 = .ok (.aload_n 1, 1) := by decide +kernel
theorem dX7_copy_57 : decode cX7_copy 57 = .ok (.getfield 9, 3) := by decide +kernel
theorem dX7_copy_60 : decode cX7_copy 60 = .ok (.iload_n 2, 1) := by decide +kernel
theorem dX7_copy_61 : decode cX7_copy 61 = .ok (.invokestatic 64, 3) := by decide +kernel
theorem dX7_copy_64 : decode cX7_copy 64 = .ok (.invokestatic 53, 3) := by decide +kernel
theorem dX7_copy_67 : decode cX7_copy 67 = .ok (.iinc 2 1, 3) := by decide +kernel
theorem dX7_copy_70 : decode cX7_copy 70 = .ok (.goto (-28), 3) := by decide +kernel
theorem dX7_copy_73 : decode cX7_copy 73 = .ok (.iconst 0, 1) := by decide +kernel
theorem dX7_copy_74 : decode cX7_copy 74 = .ok (.istore_n 2, 1) := by decide +kernel
theorem dX7_copy_75 : decode cX7_copy 75 = .ok (.iload_n 2, 1) := by decide +kernel
theorem dX7_copy_76 : decode cX7_copy 76 = .ok (.bipush 6, 2) := by decide +kernel
theorem dX7_copy_78 : decode cX7_copy 78 = .ok (.if_icmp .ge 41, 3) := by decide +kernel
theorem dX7_copy_81 : decode cX7_copy 81 = .ok (.aload_n 0, 1) := by decide +kernel
theorem dX7_copy_82 : decode cX7_copy 82 = .ok (.getfield 15, 3) := by decide +kernel
theorem dX7_copy_85 : decode cX7_copy 85 = .ok (.iload_n 2, 1) := by decide +kernel
theorem dX7_copy_86 : decode cX7_copy 86 = .ok (.aload_n 1, 1) := by decide +kernel
theorem dX7_copy_87 : decode cX7_copy 87 = .ok (.getfield 15, 3) := by decide +kernel
theorem dX7_copy_90 : decode cX7_copy 90 = .ok (.iload_n 2, 1) := by decide +kernel
theorem dX7_copy_91 : decode cX7_copy 91 = .ok (.invokestatic 64, 3) := by decide +kernel
theorem dX7_copy_94 : decode cX7_copy 94 = .ok (.invokestatic 53, 3) := by decide +kernel
theorem dX7_copy_97 : decode cX7_copy 97 = .ok (.aload_n 0, 1) := by decide +kernel
theorem dX7_copy_98 : decode cX7_copy 98 = .ok (.getfield 18, 3) := by decide +kernel
theorem dX7_copy_101 : decode cX7_copy 101 = .ok (.iload_n 2, 1) := by decide +kernel
theorem dX7_copy_102 : decode cX7_copy 102 = .ok (.aload_n 1, 1) := by decide +kernel
theorem dX7_copy_103 : decode cX7_copy 103 = .ok (.getfield 18, 3) := by decide +kernel
theorem dX7_copy_106 : decode cX7_copy 106 = .ok (.iload_n 2, 1) := by decide +kernel
theorem dX7_copy_107 : decode cX7_copy 107 = .ok (.invokestatic 64, 3) := by decide +kernel
theorem dX7_copy_110 : decode cX7_copy 110 = .ok (.invokestatic 53, 3) := by decide +kernel
theorem dX7_copy_113 : decode cX7_copy 113 = .ok (.iinc 2 1, 3) := by decide +kernel
theorem dX7_copy_116 : decode cX7_copy 116 = .ok (.goto (-41), 3) := by decide +kernel
theorem dX7_copy_119 : decode cX7_copy 119 = .ok (.return_, 1) := by decide +kernel
theorem dX9_copyApart_0 : decode cX9_copyApart 0 = .ok (.aload_n 0, 1) := by decide +kernel
theorem dX9_copyApart_1 : decode cX9_copyApart 1 = .ok (.iconst 0, 1) := by decide +kernel
theorem dX9_copyApart_2 : decode cX9_copyApart 2 = .ok (.invokevirtual 258, 3) := by decide +kernel
theorem dX9_copyApart_5 : decode cX9_copyApart 5 = .ok (.astore_n 1, 1) := by decide +kernel
theorem dX9_copyApart_6 : decode cX9_copyApart 6 = .ok (.aload_n 1, 1) := by decide +kernel
theorem dX9_copyApart_7 : decode cX9_copyApart 7 = .ok (.aload_n 0, 1) := by decide +kernel
theorem dX9_copyApart_8 : decode cX9_copyApart 8 = .ok (.getfield 58, 3) := by decide +kernel
theorem dX9_copyApart_11 : decode cX9_copyApart 11 = .ok (.invokevirtual 262, 3) := by decide +kernel
theorem dX9_copyApart_14 : decode cX9_copyApart 14 = .ok (.aload_n 1, 1) := by decide +kernel
theorem dX9_copyApart_15 : decode cX9_copyApart 15 = .ok (.areturn, 1) := by decide +kernel
theorem dX7_isFree_0 : decode cX7_isFree 0 = .ok (.iload_n 1, 1) := by decide +kernel
theorem dX7_isFree_1 : decode cX7_isFree 1 = .ok (.iload_n 2, 1) := by decide +kernel
theorem dX7_isFree_2 : decode cX7_isFree 2 = .ok (.if_icmp .eq 20, 3) := by decide +kernel
theorem dX7_isFree_5 : decode cX7_isFree 5 = .ok (.aload_n 0, 1) := by decide +kernel
theorem dX7_isFree_6 : decode cX7_isFree 6 = .ok (.getfield 21, 3) := by decide +kernel
theorem dX7_isFree_9 : decode cX7_isFree 9 = .ok (.iload_n 1, 1) := by decide +kernel
theorem dX7_isFree_10 : decode cX7_isFree 10 = .ok (.invokestatic 64, 3) := by decide +kernel
theorem dX7_isFree_13 : decode cX7_isFree 13 = .ok (.bipush 9, 2) := by decide +kernel
theorem dX7_isFree_15 : decode cX7_isFree 15 = .ok (.if_icmp .ne 7, 3) := by decide +kernel
theorem dX7_isFree_18 : decode cX7_isFree 18 = .ok (.iconst 1, 1) := by decide +kernel
theorem dX7_isFree_19 : decode cX7_isFree 19 = .ok (.goto 4, 3) := by decide +kernel
theorem dX7_isFree_22 : decode cX7_isFree 22 = .ok (.iconst 0, 1) := by decide +kernel
theorem dX7_isFree_23 : decode cX7_isFree 23 = .ok (.ireturn, 1) := by decide +kernel
theorem dX7_seatTwo_0 : decode cX7_seatTwo 0 = .ok (.iconst 0, 1) := by decide +kernel
theorem dX7_seatTwo_1 : decode cX7_seatTwo 1 = .ok (.istore_n 2, 1) := by decide +kernel
theorem dX7_seatTwo_2 : decode cX7_seatTwo 2 = .ok (.iconst 0, 1) := by decide +kernel
theorem dX7_seatTwo_3 : decode cX7_seatTwo 3 = .ok (.istore_n 3, 1) := by decide +kernel
theorem dX7_seatTwo_4 : decode cX7_seatTwo 4 = .ok (.iconst 0, 1) := by decide +kernel
theorem dX7_seatTwo_5 : decode cX7_seatTwo 5 = .ok (.istore 4, 2) := by decide +kernel
theorem dX7_seatTwo_7 : decode cX7_seatTwo 7 = .ok (.iconst 0, 1) := by decide +kernel
theorem dX7_seatTwo_8 : decode cX7_seatTwo 8 = .ok (.istore 5, 2) := by decide +kernel
theorem dX7_seatTwo_10 : decode cX7_seatTwo 10 = .ok (.iload 5, 2) := by decide +kernel
theorem dX7_seatTwo_12 : decode cX7_seatTwo 12 = .ok (.aload_n 0, 1) := by decide +kernel
theorem dX7_seatTwo_13 : decode cX7_seatTwo 13 = .ok (.getfield 24, 3) := by decide +kernel
theorem dX7_seatTwo_16 : decode cX7_seatTwo 16 = .ok (.if_icmp .ge 78, 3) := by decide +kernel
theorem dX7_seatTwo_19 : decode cX7_seatTwo 19 = .ok (.iload 5, 2) := by decide +kernel
theorem dX7_seatTwo_21 : decode cX7_seatTwo 21 = .ok (.iconst 1, 1) := by decide +kernel
theorem dX7_seatTwo_22 : decode cX7_seatTwo 22 = .ok (.iadd, 1) := by decide +kernel
theorem dX7_seatTwo_23 : decode cX7_seatTwo 23 = .ok (.istore 6, 2) := by decide +kernel
theorem dX7_seatTwo_25 : decode cX7_seatTwo 25 = .ok (.iload 6, 2) := by decide +kernel
theorem dX7_seatTwo_27 : decode cX7_seatTwo 27 = .ok (.aload_n 0, 1) := by decide +kernel
theorem dX7_seatTwo_28 : decode cX7_seatTwo 28 = .ok (.getfield 24, 3) := by decide +kernel
theorem dX7_seatTwo_31 : decode cX7_seatTwo 31 = .ok (.if_icmp .ge 57, 3) := by decide +kernel
theorem dX7_seatTwo_34 : decode cX7_seatTwo 34 = .ok (.aload_n 0, 1) := by decide +kernel
theorem dX7_seatTwo_35 : decode cX7_seatTwo 35 = .ok (.iload 5, 2) := by decide +kernel
theorem dX7_seatTwo_37 : decode cX7_seatTwo 37 = .ok (.iload 6, 2) := by decide +kernel
theorem dX7_seatTwo_39 : decode cX7_seatTwo 39 = .ok (.invokevirtual 79, 3) := by decide +kernel
theorem dX7_seatTwo_42 : decode cX7_seatTwo 42 = .ok (.iload_n 2, 1) := by decide +kernel
theorem dX7_seatTwo_43 : decode cX7_seatTwo 43 = .ok (.if_icmp .le 39, 3) := by decide +kernel
theorem dX7_seatTwo_46 : decode cX7_seatTwo 46 = .ok (.aload_n 0, 1) := by decide +kernel
theorem dX7_seatTwo_47 : decode cX7_seatTwo 47 = .ok (.iload 5, 2) := by decide +kernel
theorem dX7_seatTwo_49 : decode cX7_seatTwo 49 = .ok (.iload_n 1, 1) := by decide +kernel
theorem dX7_seatTwo_50 : decode cX7_seatTwo 50 = .ok (.invokevirtual 92, 3) := by decide +kernel
theorem dX7_seatTwo_53 : decode cX7_seatTwo 53 = .ok (.ifCond .eq 29, 3) := by decide +kernel
theorem dX7_seatTwo_56 : decode cX7_seatTwo 56 = .ok (.aload_n 0, 1) := by decide +kernel
theorem dX7_seatTwo_57 : decode cX7_seatTwo 57 = .ok (.iload 6, 2) := by decide +kernel
theorem dX7_seatTwo_59 : decode cX7_seatTwo 59 = .ok (.iload_n 1, 1) := by decide +kernel
theorem dX7_seatTwo_60 : decode cX7_seatTwo 60 = .ok (.invokevirtual 92, 3) := by decide +kernel
theorem dX7_seatTwo_63 : decode cX7_seatTwo 63 = .ok (.ifCond .eq 19, 3) := by decide +kernel
theorem dX7_seatTwo_66 : decode cX7_seatTwo 66 = .ok (.aload_n 0, 1) := by decide +kernel
theorem dX7_seatTwo_67 : decode cX7_seatTwo 67 = .ok (.iload 5, 2) := by decide +kernel
theorem dX7_seatTwo_69 : decode cX7_seatTwo 69 = .ok (.iload 6, 2) := by decide +kernel
theorem dX7_seatTwo_71 : decode cX7_seatTwo 71 = .ok (.invokevirtual 79, 3) := by decide +kernel
theorem dX7_seatTwo_74 : decode cX7_seatTwo 74 = .ok (.istore_n 2, 1) := by decide +kernel
theorem dX7_seatTwo_75 : decode cX7_seatTwo 75 = .ok (.iload 5, 2) := by decide +kernel
theorem dX7_seatTwo_77 : decode cX7_seatTwo 77 = .ok (.istore_n 3, 1) := by decide +kernel
theorem dX7_seatTwo_78 : decode cX7_seatTwo 78 = .ok (.iload 6, 2) := by decide +kernel
theorem dX7_seatTwo_80 : decode cX7_seatTwo 80 = .ok (.istore 4, 2) := by decide +kernel
theorem dX7_seatTwo_82 : decode cX7_seatTwo 82 = .ok (.iinc 6 1, 3) := by decide +kernel
theorem dX7_seatTwo_85 : decode cX7_seatTwo 85 = .ok (.goto (-60), 3) := by decide +kernel
theorem dX7_seatTwo_88 : decode cX7_seatTwo 88 = .ok (.iinc 5 1, 3) := by decide +kernel
theorem dX7_seatTwo_91 : decode cX7_seatTwo 91 = .ok (.goto (-81), 3) := by decide +kernel
theorem dX7_seatTwo_94 : decode cX7_seatTwo 94 = .ok (.iload_n 2, 1) := by decide +kernel
theorem dX7_seatTwo_95 : decode cX7_seatTwo 95 = .ok (.ifCond .le 23, 3) := by decide +kernel
theorem dX7_seatTwo_98 : decode cX7_seatTwo 98 = .ok (.aload_n 0, 1) := by decide +kernel
theorem dX7_seatTwo_99 : decode cX7_seatTwo 99 = .ok (.getfield 21, 3) := by decide +kernel
theorem dX7_seatTwo_102 : decode cX7_seatTwo 102 = .ok (.iload_n 3, 1) := by decide +kernel
theorem dX7_seatTwo_103 : decode cX7_seatTwo 103 = .ok (.iload 4, 2) := by decide +kernel
theorem dX7_seatTwo_105 : decode cX7_seatTwo 105 = .ok (.invokestatic 53, 3) := by decide +kernel
theorem dX7_seatTwo_108 : decode cX7_seatTwo 108 = .ok (.aload_n 0, 1) := by decide +kernel
theorem dX7_seatTwo_109 : decode cX7_seatTwo 109 = .ok (.getfield 21, 3) := by decide +kernel
theorem dX7_seatTwo_112 : decode cX7_seatTwo 112 = .ok (.iload 4, 2) := by decide +kernel
theorem dX7_seatTwo_114 : decode cX7_seatTwo 114 = .ok (.iload_n 3, 1) := by decide +kernel
theorem dX7_seatTwo_115 : decode cX7_seatTwo 115 = .ok (.invokestatic 53, 3) := by decide +kernel
theorem dX7_seatTwo_118 : decode cX7_seatTwo 118 = .ok (.return_, 1) := by decide +kernel
theorem dX7_book_0 : decode cX7_book 0 = .ok (.iconst 0, 1) := by decide +kernel
theorem dX7_book_1 : decode cX7_book 1 = .ok (.istore_n 2, 1) := by decide +kernel
theorem dX7_book_2 : decode cX7_book 2 = .ok (.iload_n 2, 1) := by decide +kernel
theorem dX7_book_3 : decode cX7_book 3 = .ok (.bipush 6, 2) := by decide +kernel
theorem dX7_book_5 : decode cX7_book 5 = .ok (.if_icmp .ge 19, 3) := by decide +kernel
theorem dX7_book_8 : decode cX7_book 8 = .ok (.aload_n 0, 1) := by decide +kernel
theorem dX7_book_9 : decode cX7_book 9 = .ok (.getfield 21, 3) := by decide +kernel
theorem dX7_book_12 : decode cX7_book 12 = .ok (.iload_n 2, 1) := by decide +kernel
theorem dX7_book_13 : decode cX7_book 13 = .ok (.bipush 9, 2) := by decide +kernel
theorem dX7_book_15 : decode cX7_book 15 = .ok (.invokestatic 53, 3) := by decide +kernel
theorem dX7_book_18 : decode cX7_book 18 = .ok (.iinc 2 1, 3) := by decide +kernel
theorem dX7_book_21 : decode cX7_book 21 = .ok (.goto (-19), 3) := by decide +kernel
theorem dX7_book_24 : decode cX7_book 24 = .ok (.iconst 0, 1) := by decide +kernel
theorem dX7_book_25 : decode cX7_book 25 = .ok (.istore_n 2, 1) := by decide +kernel
theorem dX7_book_26 : decode cX7_book 26 = .ok (.iload_n 2, 1) := by decide +kernel
theorem dX7_book_27 : decode cX7_book 27 = .ok (.iconst 3, 1) := by decide +kernel
theorem dX7_book_28 : decode cX7_book 28 = .ok (.if_icmp .ge 14, 3) := by decide +kernel
theorem dX7_book_31 : decode cX7_book 31 = .ok (.aload_n 0, 1) := by decide +kernel
theorem dX7_book_32 : decode cX7_book 32 = .ok (.iload_n 1, 1) := by decide +kernel
theorem dX7_book_33 : decode cX7_book 33 = .ok (.invokevirtual 88, 3) := by decide +kernel
theorem dX7_book_36 : decode cX7_book 36 = .ok (.iinc 2 1, 3) := by decide +kernel
theorem dX7_book_39 : decode cX7_book 39 = .ok (.goto (-13), 3) := by decide +kernel
theorem dX7_book_42 : decode cX7_book 42 = .ok (.return_, 1) := by decide +kernel
theorem dX7_owe_0 : decode cX7_owe 0 = .ok (.bipush 99, 2) := by decide +kernel
theorem dX7_owe_2 : decode cX7_owe 2 = .ok (.aload_n 0, 1) := by decide +kernel
theorem dX7_owe_3 : decode cX7_owe 3 = .ok (.iload_n 1, 1) := by decide +kernel
theorem dX7_owe_4 : decode cX7_owe 4 = .ok (.iload_n 2, 1) := by decide +kernel
theorem dX7_owe_5 : decode cX7_owe 5 = .ok (.invokevirtual 79, 3) := by decide +kernel
theorem dX7_owe_8 : decode cX7_owe 8 = .ok (.iload_n 3, 1) := by decide +kernel
theorem dX7_owe_9 : decode cX7_owe 9 = .ok (.iadd, 1) := by decide +kernel
theorem dX7_owe_10 : decode cX7_owe 10 = .ok (.invokestatic 82, 3) := by decide +kernel
theorem dX7_owe_13 : decode cX7_owe 13 = .ok (.istore 4, 2) := by decide +kernel
theorem dX7_owe_15 : decode cX7_owe 15 = .ok (.aload_n 0, 1) := by decide +kernel
theorem dX7_owe_16 : decode cX7_owe 16 = .ok (.getfield 9, 3) := by decide +kernel
theorem dX7_owe_19 : decode cX7_owe 19 = .ok (.iload_n 1, 1) := by decide +kernel
theorem dX7_owe_20 : decode cX7_owe 20 = .ok (.bipush 6, 2) := by decide +kernel
theorem dX7_owe_22 : decode cX7_owe 22 = .ok (.imul, 1) := by decide +kernel
theorem dX7_owe_23 : decode cX7_owe 23 = .ok (.iload_n 2, 1) := by decide +kernel
theorem dX7_owe_24 : decode cX7_owe 24 = .ok (.iadd, 1) := by decide +kernel
theorem dX7_owe_25 : decode cX7_owe 25 = .ok (.iload 4, 2) := by decide +kernel
theorem dX7_owe_27 : decode cX7_owe 27 = .ok (.invokestatic 53, 3) := by decide +kernel
theorem dX7_owe_30 : decode cX7_owe 30 = .ok (.aload_n 0, 1) := by decide +kernel
theorem dX7_owe_31 : decode cX7_owe 31 = .ok (.getfield 9, 3) := by decide +kernel
theorem dX7_owe_34 : decode cX7_owe 34 = .ok (.iload_n 2, 1) := by decide +kernel
theorem dX7_owe_35 : decode cX7_owe 35 = .ok (.bipush 6, 2) := by decide +kernel
theorem dX7_owe_37 : decode cX7_owe 37 = .ok (.imul, 1) := by decide +kernel
theorem dX7_owe_38 : decode cX7_owe 38 = .ok (.iload_n 1, 1) := by decide +kernel
theorem dX7_owe_39 : decode cX7_owe 39 = .ok (.iadd, 1) := by decide +kernel
theorem dX7_owe_40 : decode cX7_owe 40 = .ok (.iload 4, 2) := by decide +kernel
theorem dX7_owe_42 : decode cX7_owe 42 = .ok (.invokestatic 53, 3) := by decide +kernel
theorem dX7_owe_45 : decode cX7_owe 45 = .ok (.return_, 1) := by decide +kernel
theorem dX7_brood_0 : decode cX7_brood 0 = .ok (.aload_n 0, 1) := by decide +kernel
theorem dX7_brood_1 : decode cX7_brood 1 = .ok (.iload_n 1, 1) := by decide +kernel
theorem dX7_brood_2 : decode cX7_brood 2 = .ok (.invokevirtual 72, 3) := by decide +kernel
theorem dX7_brood_5 : decode cX7_brood 5 = .ok (.bipush 9, 2) := by decide +kernel
theorem dX7_brood_7 : decode cX7_brood 7 = .ok (.if_icmp .ge 19, 3) := by decide +kernel
theorem dX7_brood_10 : decode cX7_brood 10 = .ok (.aload_n 0, 1) := by decide +kernel
theorem dX7_brood_11 : decode cX7_brood 11 = .ok (.getfield 15, 3) := by decide +kernel
theorem dX7_brood_14 : decode cX7_brood 14 = .ok (.iload_n 1, 1) := by decide +kernel
theorem dX7_brood_15 : decode cX7_brood 15 = .ok (.aload_n 0, 1) := by decide +kernel
theorem dX7_brood_16 : decode cX7_brood 16 = .ok (.iload_n 1, 1) := by decide +kernel
theorem dX7_brood_17 : decode cX7_brood 17 = .ok (.invokevirtual 72, 3) := by decide +kernel
theorem dX7_brood_20 : decode cX7_brood 20 = .ok (.iconst 1, 1) := by decide +kernel
theorem dX7_brood_21 : decode cX7_brood 21 = .ok (.iadd, 1) := by decide +kernel
theorem dX7_brood_22 : decode cX7_brood 22 = .ok (.invokestatic 53, 3) := by decide +kernel
theorem dX7_brood_25 : decode cX7_brood 25 = .ok (.return_, 1) := by decide +kernel
theorem dX7_brood_26 : decode cX7_brood 26 = .ok (.aload_n 0, 1) := by decide +kernel
theorem dX7_brood_27 : decode cX7_brood 27 = .ok (.getfield 15, 3) := by decide +kernel
theorem dX7_brood_30 : decode cX7_brood 30 = .ok (.iload_n 1, 1) := by decide +kernel
theorem dX7_brood_31 : decode cX7_brood 31 = .ok (.iconst 5, 1) := by decide +kernel
theorem dX7_brood_32 : decode cX7_brood 32 = .ok (.invokestatic 53, 3) := by decide +kernel
theorem dX7_brood_35 : decode cX7_brood 35 = .ok (.aload_n 0, 1) := by decide +kernel
theorem dX7_brood_36 : decode cX7_brood 36 = .ok (.dup, 1) := by decide +kernel
theorem dX7_brood_37 : decode cX7_brood 37 = .ok (.getfield 34, 3) := by decide +kernel
theorem dX7_brood_40 : decode cX7_brood 40 = .ok (.iconst 1, 1) := by decide +kernel
theorem dX7_brood_41 : decode cX7_brood 41 = .ok (.iadd, 1) := by decide +kernel
theorem dX7_brood_42 : decode cX7_brood 42 = .ok (.putfield 34, 3) := by decide +kernel
theorem dX7_brood_45 : decode cX7_brood 45 = .ok (.aload_n 0, 1) := by decide +kernel
theorem dX7_brood_46 : decode cX7_brood 46 = .ok (.dup, 1) := by decide +kernel
theorem dX7_brood_47 : decode cX7_brood 47 = .ok (.getfield 43, 3) := by decide +kernel
theorem dX7_brood_50 : decode cX7_brood 50 = .ok (.iconst 1, 1) := by decide +kernel
theorem dX7_brood_51 : decode cX7_brood 51 = .ok (.iload_n 1, 1) := by decide +kernel
theorem dX7_brood_52 : decode cX7_brood 52 = .ok (.ishl, 1) := by decide +kernel
theorem dX7_brood_53 : decode cX7_brood 53 = .ok (.ior, 1) := by decide +kernel
theorem dX7_brood_54 : decode cX7_brood 54 = .ok (.putfield 43, 3) := by decide +kernel
theorem dX7_brood_57 : decode cX7_brood 57 = .ok (.iconst 0, 1) := by decide +kernel
theorem dX7_brood_58 : decode cX7_brood 58 = .ok (.istore_n 2, 1) := by decide +kernel
theorem dX7_brood_59 : decode cX7_brood 59 = .ok (.iload_n 2, 1) := by decide +kernel
theorem dX7_brood_60 : decode cX7_brood 60 = .ok (.aload_n 0, 1) := by decide +kernel
theorem dX7_brood_61 : decode cX7_brood 61 = .ok (.getfield 24, 3) := by decide +kernel
theorem dX7_brood_64 : decode cX7_brood 64 = .ok (.if_icmp .ge 21, 3) := by decide +kernel
theorem dX7_brood_67 : decode cX7_brood 67 = .ok (.iload_n 2, 1) := by decide +kernel
theorem dX7_brood_68 : decode cX7_brood 68 = .ok (.iload_n 1, 1) := by decide +kernel
theorem dX7_brood_69 : decode cX7_brood 69 = .ok (.if_icmp .eq 10, 3) := by decide +kernel
theorem dX7_brood_72 : decode cX7_brood 72 = .ok (.aload_n 0, 1) := by decide +kernel
theorem dX7_brood_73 : decode cX7_brood 73 = .ok (.iload_n 1, 1) := by decide +kernel
theorem dX7_brood_74 : decode cX7_brood 74 = .ok (.iload_n 2, 1) := by decide +kernel
theorem dX7_brood_75 : decode cX7_brood 75 = .ok (.iconst 1, 1) := by decide +kernel
theorem dX7_brood_76 : decode cX7_brood 76 = .ok (.invokevirtual 102, 3) := by decide +kernel
theorem dX7_brood_79 : decode cX7_brood 79 = .ok (.iinc 2 1, 3) := by decide +kernel
theorem dX7_brood_82 : decode cX7_brood 82 = .ok (.goto (-23), 3) := by decide +kernel
theorem dX7_brood_85 : decode cX7_brood 85 = .ok (.return_, 1) := by decide +kernel
theorem dX7_cheer_0 : decode cX7_cheer 0 = .ok (.aload_n 0, 1) := by decide +kernel
theorem dX7_cheer_1 : decode cX7_cheer 1 = .ok (.getfield 15, 3) := by decide +kernel
theorem dX7_cheer_4 : decode cX7_cheer 4 = .ok (.iload_n 1, 1) := by decide +kernel
theorem dX7_cheer_5 : decode cX7_cheer 5 = .ok (.iconst 0, 1) := by decide +kernel
theorem dX7_cheer_6 : decode cX7_cheer 6 = .ok (.aload_n 0, 1) := by decide +kernel
theorem dX7_cheer_7 : decode cX7_cheer 7 = .ok (.iload_n 1, 1) := by decide +kernel
theorem dX7_cheer_8 : decode cX7_cheer 8 = .ok (.invokevirtual 72, 3) := by decide +kernel
theorem dX7_cheer_11 : decode cX7_cheer 11 = .ok (.iload_n 2, 1) := by decide +kernel
theorem dX7_cheer_12 : decode cX7_cheer 12 = .ok (.isub, 1) := by decide +kernel
theorem dX7_cheer_13 : decode cX7_cheer 13 = .ok (.invokestatic 73, 3) := by decide +kernel
theorem dX7_cheer_16 : decode cX7_cheer 16 = .ok (.invokestatic 53, 3) := by decide +kernel
theorem dX7_cheer_19 : decode cX7_cheer 19 = .ok (.return_, 1) := by decide +kernel
theorem dX7_pass_0 : decode cX7_pass 0 = .ok (.aload_n 0, 1) := by decide +kernel
theorem dX7_pass_1 : decode cX7_pass 1 = .ok (.iload_n 1, 1) := by decide +kernel
theorem dX7_pass_2 : decode cX7_pass 2 = .ok (.invokevirtual 95, 3) := by decide +kernel
theorem dX7_pass_5 : decode cX7_pass 5 = .ok (.aload_n 0, 1) := by decide +kernel
theorem dX7_pass_6 : decode cX7_pass 6 = .ok (.dup, 1) := by decide +kernel
theorem dX7_pass_7 : decode cX7_pass 7 = .ok (.getfield 37, 3) := by decide +kernel
theorem dX7_pass_10 : decode cX7_pass 10 = .ok (.iconst 1, 1) := by decide +kernel
theorem dX7_pass_11 : decode cX7_pass 11 = .ok (.iadd, 1) := by decide +kernel
theorem dX7_pass_12 : decode cX7_pass 12 = .ok (.putfield 37, 3) := by decide +kernel
theorem dX7_pass_15 : decode cX7_pass 15 = .ok (.aload_n 0, 1) := by decide +kernel
theorem dX7_pass_16 : decode cX7_pass 16 = .ok (.iconst 0, 1) := by decide +kernel
theorem dX7_pass_17 : decode cX7_pass 17 = .ok (.putfield 40, 3) := by decide +kernel
theorem dX7_pass_20 : decode cX7_pass 20 = .ok (.aload_n 0, 1) := by decide +kernel
theorem dX7_pass_21 : decode cX7_pass 21 = .ok (.iconst 0, 1) := by decide +kernel
theorem dX7_pass_22 : decode cX7_pass 22 = .ok (.putfield 43, 3) := by decide +kernel
theorem dX7_pass_25 : decode cX7_pass 25 = .ok (.iconst 0, 1) := by decide +kernel
theorem dX7_pass_26 : decode cX7_pass 26 = .ok (.istore_n 2, 1) := by decide +kernel
theorem dX7_pass_27 : decode cX7_pass 27 = .ok (.iload_n 2, 1) := by decide +kernel
theorem dX7_pass_28 : decode cX7_pass 28 = .ok (.aload_n 0, 1) := by decide +kernel
theorem dX7_pass_29 : decode cX7_pass 29 = .ok (.getfield 24, 3) := by decide +kernel
theorem dX7_pass_32 : decode cX7_pass 32 = .ok (.if_icmp .ge 52, 3) := by decide +kernel
theorem dX7_pass_35 : decode cX7_pass 35 = .ok (.aload_n 0, 1) := by decide +kernel
theorem dX7_pass_36 : decode cX7_pass 36 = .ok (.getfield 21, 3) := by decide +kernel
theorem dX7_pass_39 : decode cX7_pass 39 = .ok (.iload_n 2, 1) := by decide +kernel
theorem dX7_pass_40 : decode cX7_pass 40 = .ok (.invokestatic 64, 3) := by decide +kernel
theorem dX7_pass_43 : decode cX7_pass 43 = .ok (.istore_n 3, 1) := by decide +kernel
theorem dX7_pass_44 : decode cX7_pass 44 = .ok (.iload_n 3, 1) := by decide +kernel
theorem dX7_pass_45 : decode cX7_pass 45 = .ok (.bipush 9, 2) := by decide +kernel
theorem dX7_pass_47 : decode cX7_pass 47 = .ok (.if_icmp .eq 31, 3) := by decide +kernel
theorem dX7_pass_50 : decode cX7_pass 50 = .ok (.aload_n 0, 1) := by decide +kernel
theorem dX7_pass_51 : decode cX7_pass 51 = .ok (.dup, 1) := by decide +kernel
theorem dX7_pass_52 : decode cX7_pass 52 = .ok (.getfield 40, 3) := by decide +kernel
theorem dX7_pass_55 : decode cX7_pass 55 = .ok (.iconst 1, 1) := by decide +kernel
theorem dX7_pass_56 : decode cX7_pass 56 = .ok (.iadd, 1) := by decide +kernel
theorem dX7_pass_57 : decode cX7_pass 57 = .ok (.putfield 40, 3) := by decide +kernel
theorem dX7_pass_60 : decode cX7_pass 60 = .ok (.aload_n 0, 1) := by decide +kernel
theorem dX7_pass_61 : decode cX7_pass 61 = .ok (.iload_n 2, 1) := by decide +kernel
theorem dX7_pass_62 : decode cX7_pass 62 = .ok (.iconst 1, 1) := by decide +kernel
theorem dX7_pass_63 : decode cX7_pass 63 = .ok (.invokevirtual 98, 3) := by decide +kernel
theorem dX7_pass_66 : decode cX7_pass 66 = .ok (.iload_n 2, 1) := by decide +kernel
theorem dX7_pass_67 : decode cX7_pass 67 = .ok (.iload_n 3, 1) := by decide +kernel
theorem dX7_pass_68 : decode cX7_pass 68 = .ok (.if_icmp .ge 10, 3) := by decide +kernel
theorem dX7_pass_71 : decode cX7_pass 71 = .ok (.aload_n 0, 1) := by decide +kernel
theorem dX7_pass_72 : decode cX7_pass 72 = .ok (.iload_n 2, 1) := by decide +kernel
theorem dX7_pass_73 : decode cX7_pass 73 = .ok (.iload_n 3, 1) := by decide +kernel
theorem dX7_pass_74 : decode cX7_pass 74 = .ok (.iconst (-1), 1) := by decide +kernel
theorem dX7_pass_75 : decode cX7_pass 75 = .ok (.invokevirtual 102, 3) := by decide +kernel
theorem dX7_pass_78 : decode cX7_pass 78 = .ok (.iinc 2 1, 3) := by decide +kernel
theorem dX7_pass_81 : decode cX7_pass 81 = .ok (.goto (-54), 3) := by decide +kernel
theorem dX7_pass_84 : decode cX7_pass 84 = .ok (.iconst 0, 1) := by decide +kernel
theorem dX7_pass_85 : decode cX7_pass 85 = .ok (.istore_n 2, 1) := by decide +kernel
theorem dX7_pass_86 : decode cX7_pass 86 = .ok (.iload_n 2, 1) := by decide +kernel
theorem dX7_pass_87 : decode cX7_pass 87 = .ok (.aload_n 0, 1) := by decide +kernel
theorem dX7_pass_88 : decode cX7_pass 88 = .ok (.getfield 24, 3) := by decide +kernel
theorem dX7_pass_91 : decode cX7_pass 91 = .ok (.if_icmp .ge 27, 3) := by decide +kernel
theorem dX7_pass_94 : decode cX7_pass 94 = .ok (.aload_n 0, 1) := by decide +kernel
theorem dX7_pass_95 : decode cX7_pass 95 = .ok (.getfield 21, 3) := by decide +kernel
theorem dX7_pass_98 : decode cX7_pass 98 = .ok (.iload_n 2, 1) := by decide +kernel
theorem dX7_pass_99 : decode cX7_pass 99 = .ok (.invokestatic 64, 3) := by decide +kernel
theorem dX7_pass_102 : decode cX7_pass 102 = .ok (.bipush 9, 2) := by decide +kernel
theorem dX7_pass_104 : decode cX7_pass 104 = .ok (.if_icmp .ne 8, 3) := by decide +kernel
theorem dX7_pass_107 : decode cX7_pass 107 = .ok (.aload_n 0, 1) := by decide +kernel
theorem dX7_pass_108 : decode cX7_pass 108 = .ok (.iload_n 2, 1) := by decide +kernel
theorem dX7_pass_109 : decode cX7_pass 109 = .ok (.invokevirtual 106, 3) := by decide +kernel
theorem dX7_pass_112 : decode cX7_pass 112 = .ok (.iinc 2 1, 3) := by decide +kernel
theorem dX7_pass_115 : decode cX7_pass 115 = .ok (.goto (-29), 3) := by decide +kernel
theorem dX7_pass_118 : decode cX7_pass 118 = .ok (.return_, 1) := by decide +kernel
theorem dX9_neverSitting_0 : decode cX9_neverSitting 0 = .ok (.aload_n 0, 1) := by decide +kernel
theorem dX9_neverSitting_1 : decode cX9_neverSitting 1 = .ok (.invokevirtual 272, 3) := by decide +kernel
theorem dX9_neverSitting_4 : decode cX9_neverSitting 4 = .ok (.astore_n 1, 1) := by decide +kernel
theorem dX9_neverSitting_5 : decode cX9_neverSitting 5 = .ok (.iconst 1, 1) := by decide +kernel
theorem dX9_neverSitting_6 : decode cX9_neverSitting 6 = .ok (.aload_n 1, 1) := by decide +kernel
theorem dX9_neverSitting_7 : decode cX9_neverSitting 7 = .ok (.getfield 282, 3) := by decide +kernel
theorem dX9_neverSitting_10 : decode cX9_neverSitting 10 = .ok (.ishl, 1) := by decide +kernel
theorem dX9_neverSitting_11 : decode cX9_neverSitting 11 = .ok (.iconst 1, 1) := by decide +kernel
theorem dX9_neverSitting_12 : decode cX9_neverSitting 12 = .ok (.isub, 1) := by decide +kernel
theorem dX9_neverSitting_13 : decode cX9_neverSitting 13 = .ok (.istore_n 2, 1) := by decide +kernel
theorem dX9_neverSitting_14 : decode cX9_neverSitting 14 = .ok (.iconst 0, 1) := by decide +kernel
theorem dX9_neverSitting_15 : decode cX9_neverSitting 15 = .ok (.istore_n 3, 1) := by decide +kernel
theorem dX9_neverSitting_16 : decode cX9_neverSitting 16 = .ok (.iload_n 3, 1) := by decide +kernel
theorem dX9_neverSitting_17 : decode cX9_neverSitting 17 = .ok (.bipush 20, 2) := by decide +kernel
theorem dX9_neverSitting_19 : decode cX9_neverSitting 19 = .ok (.if_icmp .ge 55, 3) := by decide +kernel
theorem dX9_neverSitting_22 : decode cX9_neverSitting 22 = .ok (.aload_n 1, 1) := by decide +kernel
theorem dX9_neverSitting_23 : decode cX9_neverSitting 23 = .ok (.iconst (-1), 1) := by decide +kernel
theorem dX9_neverSitting_24 : decode cX9_neverSitting 24 = .ok (.invokevirtual 233, 3) := by decide +kernel
theorem dX9_neverSitting_27 : decode cX9_neverSitting 27 = .ok (.iconst 0, 1) := by decide +kernel
theorem dX9_neverSitting_28 : decode cX9_neverSitting 28 = .ok (.istore 4, 2) := by decide +kernel
theorem dX9_neverSitting_30 : decode cX9_neverSitting 30 = .ok (.iload 4, 2) := by decide +kernel
theorem dX9_neverSitting_32 : decode cX9_neverSitting 32 = .ok (.aload_n 1, 1) := by decide +kernel
theorem dX9_neverSitting_33 : decode cX9_neverSitting 33 = .ok (.getfield 282, 3) := by decide +kernel
theorem dX9_neverSitting_36 : decode cX9_neverSitting 36 = .ok (.if_icmp .ge 32, 3) := by decide +kernel
theorem dX9_neverSitting_39 : decode cX9_neverSitting 39 = .ok (.aload_n 1, 1) := by decide +kernel
theorem dX9_neverSitting_40 : decode cX9_neverSitting 40 = .ok (.getfield 279, 3) := by decide +kernel
theorem dX9_neverSitting_43 : decode cX9_neverSitting 43 = .ok (.iload 4, 2) := by decide +kernel
theorem dX9_neverSitting_45 : decode cX9_neverSitting 45 = .ok (.invokestatic 333, 3) := by decide +kernel
theorem dX9_neverSitting_48 : decode cX9_neverSitting 48 = .ok (.bipush 9, 2) := by decide +kernel
theorem dX9_neverSitting_50 : decode cX9_neverSitting 50 = .ok (.if_icmp .eq 12, 3) := by decide +kernel
theorem dX9_neverSitting_53 : decode cX9_neverSitting 53 = .ok (.iload_n 2, 1) := by decide +kernel
theorem dX9_neverSitting_54 : decode cX9_neverSitting 54 = .ok (.iconst 1, 1) := by decide +kernel
theorem dX9_neverSitting_55 : decode cX9_neverSitting 55 = .ok (.iload 4, 2) := by decide +kernel
theorem dX9_neverSitting_57 : decode cX9_neverSitting 57 = .ok (.ishl, 1) := by decide +kernel
theorem dX9_neverSitting_58 : decode cX9_neverSitting 58 = .ok (.iconst (-1), 1) := by decide +kernel
theorem dX9_neverSitting_59 : decode cX9_neverSitting 59 = .ok (.ixor, 1) := by decide +kernel
theorem dX9_neverSitting_60 : decode cX9_neverSitting 60 = .ok (.iand, 1) := by decide +kernel
theorem dX9_neverSitting_61 : decode cX9_neverSitting 61 = .ok (.istore_n 2, 1) := by decide +kernel
theorem dX9_neverSitting_62 : decode cX9_neverSitting 62 = .ok (.iinc 4 1, 3) := by decide +kernel
theorem dX9_neverSitting_65 : decode cX9_neverSitting 65 = .ok (.goto (-35), 3) := by decide +kernel
theorem dX9_neverSitting_68 : decode cX9_neverSitting 68 = .ok (.iinc 3 1, 3) := by decide +kernel
theorem dX9_neverSitting_71 : decode cX9_neverSitting 71 = .ok (.goto (-55), 3) := by decide +kernel
theorem dX9_neverSitting_74 : decode cX9_neverSitting 74 = .ok (.iload_n 2, 1) := by decide +kernel
theorem dX9_neverSitting_75 : decode cX9_neverSitting 75 = .ok (.ireturn, 1) := by decide +kernel
theorem dX9_circleOf_0 : decode cX9_circleOf 0 = .ok (.iconst 0, 1) := by decide +kernel
theorem dX9_circleOf_1 : decode cX9_circleOf 1 = .ok (.istore_n 2, 1) := by decide +kernel
theorem dX9_circleOf_2 : decode cX9_circleOf 2 = .ok (.iconst 0, 1) := by decide +kernel
theorem dX9_circleOf_3 : decode cX9_circleOf 3 = .ok (.istore_n 3, 1) := by decide +kernel
theorem dX9_circleOf_4 : decode cX9_circleOf 4 = .ok (.iload_n 3, 1) := by decide +kernel
theorem dX9_circleOf_5 : decode cX9_circleOf 5 = .ok (.aload_n 0, 1) := by decide +kernel
theorem dX9_circleOf_6 : decode cX9_circleOf 6 = .ok (.getfield 58, 3) := by decide +kernel
theorem dX9_circleOf_9 : decode cX9_circleOf 9 = .ok (.getfield 282, 3) := by decide +kernel
theorem dX9_circleOf_12 : decode cX9_circleOf 12 = .ok (.if_icmp .ge 27, 3) := by decide +kernel
theorem dX9_circleOf_15 : decode cX9_circleOf 15 = .ok (.aload_n 0, 1) := by decide +kernel
theorem dX9_circleOf_16 : decode cX9_circleOf 16 = .ok (.getfield 58, 3) := by decide +kernel
theorem dX9_circleOf_19 : decode cX9_circleOf 19 = .ok (.iload_n 1, 1) := by decide +kernel
theorem dX9_circleOf_20 : decode cX9_circleOf 20 = .ok (.iload_n 3, 1) := by decide +kernel
theorem dX9_circleOf_21 : decode cX9_circleOf 21 = .ok (.invokevirtual 184, 3) := by decide +kernel
theorem dX9_circleOf_24 : decode cX9_circleOf 24 = .ok (.ifCond .le 9, 3) := by decide +kernel
theorem dX9_circleOf_27 : decode cX9_circleOf 27 = .ok (.iload_n 2, 1) := by decide +kernel
theorem dX9_circleOf_28 : decode cX9_circleOf 28 = .ok (.iconst 1, 1) := by decide +kernel
theorem dX9_circleOf_29 : decode cX9_circleOf 29 = .ok (.iload_n 3, 1) := by decide +kernel
theorem dX9_circleOf_30 : decode cX9_circleOf 30 = .ok (.ishl, 1) := by decide +kernel
theorem dX9_circleOf_31 : decode cX9_circleOf 31 = .ok (.ior, 1) := by decide +kernel
theorem dX9_circleOf_32 : decode cX9_circleOf 32 = .ok (.istore_n 2, 1) := by decide +kernel
theorem dX9_circleOf_33 : decode cX9_circleOf 33 = .ok (.iinc 3 1, 3) := by decide +kernel
theorem dX9_circleOf_36 : decode cX9_circleOf 36 = .ok (.goto (-32), 3) := by decide +kernel
theorem dX9_circleOf_39 : decode cX9_circleOf 39 = .ok (.iload_n 2, 1) := by decide +kernel
theorem dX9_circleOf_40 : decode cX9_circleOf 40 = .ok (.ireturn, 1) := by decide +kernel
theorem dX9_holds_0 : decode cX9_holds 0 = .ok (.iload_n 0, 1) := by decide +kernel
theorem dX9_holds_1 : decode cX9_holds 1 = .ok (.iload_n 1, 1) := by decide +kernel
theorem dX9_holds_2 : decode cX9_holds 2 = .ok (.ishr, 1) := by decide +kernel
theorem dX9_holds_3 : decode cX9_holds 3 = .ok (.iconst 1, 1) := by decide +kernel
theorem dX9_holds_4 : decode cX9_holds 4 = .ok (.iand, 1) := by decide +kernel
theorem dX9_holds_5 : decode cX9_holds 5 = .ok (.iconst 1, 1) := by decide +kernel
theorem dX9_holds_6 : decode cX9_holds 6 = .ok (.if_icmp .ne 7, 3) := by decide +kernel
theorem dX9_holds_9 : decode cX9_holds 9 = .ok (.iconst 1, 1) := by decide +kernel
theorem dX9_holds_10 : decode cX9_holds 10 = .ok (.goto 4, 3) := by decide +kernel
theorem dX9_holds_13 : decode cX9_holds 13 = .ok (.iconst 0, 1) := by decide +kernel
theorem dX9_holds_14 : decode cX9_holds 14 = .ok (.ireturn, 1) := by decide +kernel
theorem dX9_isParty_0 : decode cX9_isParty 0 = .ok (.iconst 0, 1) := by decide +kernel
theorem dX9_isParty_1 : decode cX9_isParty 1 = .ok (.istore_n 2, 1) := by decide +kernel
theorem dX9_isParty_2 : decode cX9_isParty 2 = .ok (.iload_n 2, 1) := by decide +kernel
theorem dX9_isParty_3 : decode cX9_isParty 3 = .ok (.aload_n 0, 1) := by decide +kernel
theorem dX9_isParty_4 : decode cX9_isParty 4 = .ok (.getfield 58, 3) := by decide +kernel
theorem dX9_isParty_7 : decode cX9_isParty 7 = .ok (.getfield 282, 3) := by decide +kernel
theorem dX9_isParty_10 : decode cX9_isParty 10 = .ok (.if_icmp .ge 38, 3) := by decide +kernel
theorem dX9_isParty_13 : decode cX9_isParty 13 = .ok (.iload_n 1, 1) := by decide +kernel
theorem dX9_isParty_14 : decode cX9_isParty 14 = .ok (.iconst 1, 1) := by decide +kernel
theorem dX9_isParty_15 : decode cX9_isParty 15 = .ok (.iload_n 2, 1) := by decide +kernel
theorem dX9_isParty_16 : decode cX9_isParty 16 = .ok (.ishl, 1) := by decide +kernel
theorem dX9_isParty_17 : decode cX9_isParty 17 = .ok (.iconst (-1), 1) := by decide +kernel
theorem dX9_isParty_18 : decode cX9_isParty 18 = .ok (.ixor, 1) := by decide +kernel
theorem dX9_isParty_19 : decode cX9_isParty 19 = .ok (.iand, 1) := by decide +kernel
theorem dX9_isParty_20 : decode cX9_isParty 20 = .ok (.istore_n 3, 1) := by decide +kernel
theorem dX9_isParty_21 : decode cX9_isParty 21 = .ok (.iload_n 1, 1) := by decide +kernel
theorem dX9_isParty_22 : decode cX9_isParty 22 = .ok (.iload_n 2, 1) := by decide +kernel
theorem dX9_isParty_23 : decode cX9_isParty 23 = .ok (.invokestatic 447, 3) := by decide +kernel
theorem dX9_isParty_26 : decode cX9_isParty 26 = .ok (.ifCond .eq 16, 3) := by decide +kernel
theorem dX9_isParty_29 : decode cX9_isParty 29 = .ok (.aload_n 0, 1) := by decide +kernel
theorem dX9_isParty_30 : decode cX9_isParty 30 = .ok (.iload_n 2, 1) := by decide +kernel
theorem dX9_isParty_31 : decode cX9_isParty 31 = .ok (.invokevirtual 380, 3) := by decide +kernel
theorem dX9_isParty_34 : decode cX9_isParty 34 = .ok (.iload_n 3, 1) := by decide +kernel
theorem dX9_isParty_35 : decode cX9_isParty 35 = .ok (.iand, 1) := by decide +kernel
theorem dX9_isParty_36 : decode cX9_isParty 36 = .ok (.iload_n 3, 1) := by decide +kernel
theorem dX9_isParty_37 : decode cX9_isParty 37 = .ok (.if_icmp .eq 5, 3) := by decide +kernel
theorem dX9_isParty_40 : decode cX9_isParty 40 = .ok (.iconst 0, 1) := by decide +kernel
theorem dX9_isParty_41 : decode cX9_isParty 41 = .ok (.ireturn, 1) := by decide +kernel
theorem dX9_isParty_42 : decode cX9_isParty 42 = .ok (.iinc 2 1, 3) := by decide +kernel
theorem dX9_isParty_45 : decode cX9_isParty 45 = .ok (.goto (-43), 3) := by decide +kernel
theorem dX9_isParty_48 : decode cX9_isParty 48 = .ok (.iconst 1, 1) := by decide +kernel
theorem dX9_isParty_49 : decode cX9_isParty 49 = .ok (.ireturn, 1) := by decide +kernel
theorem dJ6_bitCount_0f7a4_0 : decode cJ6_bitCount_0f7a4 0 = .ok (.iload_n 0, 1) := by decide +kernel
theorem dJ6_bitCount_0f7a4_1 : decode cJ6_bitCount_0f7a4 1 = .ok (.iload_n 0, 1) := by decide +kernel
theorem dJ6_bitCount_0f7a4_2 : decode cJ6_bitCount_0f7a4 2 = .ok (.iconst 1, 1) := by decide +kernel
theorem dJ6_bitCount_0f7a4_3 : decode cJ6_bitCount_0f7a4 3 = .ok (.iushr, 1) := by decide +kernel
theorem dJ6_bitCount_0f7a4_4 : decode cJ6_bitCount_0f7a4 4 = .ok (.ldc_w 265, 3) := by decide +kernel
theorem dJ6_bitCount_0f7a4_7 : decode cJ6_bitCount_0f7a4 7 = .ok (.iand, 1) := by decide +kernel
theorem dJ6_bitCount_0f7a4_8 : decode cJ6_bitCount_0f7a4 8 = .ok (.isub, 1) := by decide +kernel
theorem dJ6_bitCount_0f7a4_9 : decode cJ6_bitCount_0f7a4 9 = .ok (.istore_n 0, 1) := by decide +kernel
theorem dJ6_bitCount_0f7a4_10 : decode cJ6_bitCount_0f7a4 10 = .ok (.iload_n 0, 1) := by decide +kernel
theorem dJ6_bitCount_0f7a4_11 : decode cJ6_bitCount_0f7a4 11 = .ok (.ldc_w 266, 3) := by decide +kernel
theorem dJ6_bitCount_0f7a4_14 : decode cJ6_bitCount_0f7a4 14 = .ok (.iand, 1) := by decide +kernel
theorem dJ6_bitCount_0f7a4_15 : decode cJ6_bitCount_0f7a4 15 = .ok (.iload_n 0, 1) := by decide +kernel
theorem dJ6_bitCount_0f7a4_16 : decode cJ6_bitCount_0f7a4 16 = .ok (.iconst 2, 1) := by decide +kernel
theorem dJ6_bitCount_0f7a4_17 : decode cJ6_bitCount_0f7a4 17 = .ok (.iushr, 1) := by decide +kernel
theorem dJ6_bitCount_0f7a4_18 : decode cJ6_bitCount_0f7a4 18 = .ok (.ldc_w 266, 3) := by decide +kernel
theorem dJ6_bitCount_0f7a4_21 : decode cJ6_bitCount_0f7a4 21 = .ok (.iand, 1) := by decide +kernel
theorem dJ6_bitCount_0f7a4_22 : decode cJ6_bitCount_0f7a4 22 = .ok (.iadd, 1) := by decide +kernel
theorem dJ6_bitCount_0f7a4_23 : decode cJ6_bitCount_0f7a4 23 = .ok (.istore_n 0, 1) := by decide +kernel
theorem dJ6_bitCount_0f7a4_24 : decode cJ6_bitCount_0f7a4 24 = .ok (.iload_n 0, 1) := by decide +kernel
theorem dJ6_bitCount_0f7a4_25 : decode cJ6_bitCount_0f7a4 25 = .ok (.iload_n 0, 1) := by decide +kernel
theorem dJ6_bitCount_0f7a4_26 : decode cJ6_bitCount_0f7a4 26 = .ok (.iconst 4, 1) := by decide +kernel
theorem dJ6_bitCount_0f7a4_27 : decode cJ6_bitCount_0f7a4 27 = .ok (.iushr, 1) := by decide +kernel
theorem dJ6_bitCount_0f7a4_28 : decode cJ6_bitCount_0f7a4 28 = .ok (.iadd, 1) := by decide +kernel
theorem dJ6_bitCount_0f7a4_29 : decode cJ6_bitCount_0f7a4 29 = .ok (.ldc_w 267, 3) := by decide +kernel
theorem dJ6_bitCount_0f7a4_32 : decode cJ6_bitCount_0f7a4 32 = .ok (.iand, 1) := by decide +kernel
theorem dJ6_bitCount_0f7a4_33 : decode cJ6_bitCount_0f7a4 33 = .ok (.istore_n 0, 1) := by decide +kernel
theorem dJ6_bitCount_0f7a4_34 : decode cJ6_bitCount_0f7a4 34 = .ok (.iload_n 0, 1) := by decide +kernel
theorem dJ6_bitCount_0f7a4_35 : decode cJ6_bitCount_0f7a4 35 = .ok (.iload_n 0, 1) := by decide +kernel
theorem dJ6_bitCount_0f7a4_36 : decode cJ6_bitCount_0f7a4 36 = .ok (.bipush 8, 2) := by decide +kernel
theorem dJ6_bitCount_0f7a4_38 : decode cJ6_bitCount_0f7a4 38 = .ok (.iushr, 1) := by decide +kernel
theorem dJ6_bitCount_0f7a4_39 : decode cJ6_bitCount_0f7a4 39 = .ok (.iadd, 1) := by decide +kernel
theorem dJ6_bitCount_0f7a4_40 : decode cJ6_bitCount_0f7a4 40 = .ok (.istore_n 0, 1) := by decide +kernel
theorem dJ6_bitCount_0f7a4_41 : decode cJ6_bitCount_0f7a4 41 = .ok (.iload_n 0, 1) := by decide +kernel
theorem dJ6_bitCount_0f7a4_42 : decode cJ6_bitCount_0f7a4 42 = .ok (.iload_n 0, 1) := by decide +kernel
theorem dJ6_bitCount_0f7a4_43 : decode cJ6_bitCount_0f7a4 43 = .ok (.bipush 16, 2) := by decide +kernel
theorem dJ6_bitCount_0f7a4_45 : decode cJ6_bitCount_0f7a4 45 = .ok (.iushr, 1) := by decide +kernel
theorem dJ6_bitCount_0f7a4_46 : decode cJ6_bitCount_0f7a4 46 = .ok (.iadd, 1) := by decide +kernel
theorem dJ6_bitCount_0f7a4_47 : decode cJ6_bitCount_0f7a4 47 = .ok (.istore_n 0, 1) := by decide +kernel
theorem dJ6_bitCount_0f7a4_48 : decode cJ6_bitCount_0f7a4 48 = .ok (.iload_n 0, 1) := by decide +kernel
theorem dJ6_bitCount_0f7a4_49 : decode cJ6_bitCount_0f7a4 49 = .ok (.bipush 63, 2) := by decide +kernel
theorem dJ6_bitCount_0f7a4_51 : decode cJ6_bitCount_0f7a4 51 = .ok (.iand, 1) := by decide +kernel
theorem dJ6_bitCount_0f7a4_52 : decode cJ6_bitCount_0f7a4 52 = .ok (.ireturn, 1) := by decide +kernel
theorem dX9_party_0 : decode cX9_party 0 = .ok (.iconst 0, 1) := by decide +kernel
theorem dX9_party_1 : decode cX9_party 1 = .ok (.istore_n 1, 1) := by decide +kernel
theorem dX9_party_2 : decode cX9_party 2 = .ok (.iconst 0, 1) := by decide +kernel
theorem dX9_party_3 : decode cX9_party 3 = .ok (.istore_n 2, 1) := by decide +kernel
theorem dX9_party_4 : decode cX9_party 4 = .ok (.iload_n 2, 1) := by decide +kernel
theorem dX9_party_5 : decode cX9_party 5 = .ok (.iconst 1, 1) := by decide +kernel
theorem dX9_party_6 : decode cX9_party 6 = .ok (.aload_n 0, 1) := by decide +kernel
theorem dX9_party_7 : decode cX9_party 7 = .ok (.getfield 58, 3) := by decide +kernel
theorem dX9_party_10 : decode cX9_party 10 = .ok (.getfield 282, 3) := by decide +kernel
theorem dX9_party_13 : decode cX9_party 13 = .ok (.ishl, 1) := by decide +kernel
theorem dX9_party_14 : decode cX9_party 14 = .ok (.if_icmp .ge 26, 3) := by decide +kernel
theorem dX9_party_17 : decode cX9_party 17 = .ok (.aload_n 0, 1) := by decide +kernel
theorem dX9_party_18 : decode cX9_party 18 = .ok (.iload_n 2, 1) := by decide +kernel
theorem dX9_party_19 : decode cX9_party 19 = .ok (.invokevirtual 453, 3) := by decide +kernel
theorem dX9_party_22 : decode cX9_party 22 = .ok (.ifCond .eq 12, 3) := by decide +kernel
theorem dX9_party_25 : decode cX9_party 25 = .ok (.iload_n 1, 1) := by decide +kernel
theorem dX9_party_26 : decode cX9_party 26 = .ok (.iload_n 2, 1) := by decide +kernel
theorem dX9_party_27 : decode cX9_party 27 = .ok (.invokestatic 297, 3) := by decide +kernel
theorem dX9_party_30 : decode cX9_party 30 = .ok (.invokestatic 292, 3) := by decide +kernel
theorem dX9_party_33 : decode cX9_party 33 = .ok (.istore_n 1, 1) := by decide +kernel
theorem dX9_party_34 : decode cX9_party 34 = .ok (.iinc 2 1, 3) := by decide +kernel
theorem dX9_party_37 : decode cX9_party 37 = .ok (.goto (-33), 3) := by decide +kernel
theorem dX9_party_40 : decode cX9_party 40 = .ok (.iload_n 1, 1) := by decide +kernel
theorem dX9_party_41 : decode cX9_party 41 = .ok (.ireturn, 1) := by decide +kernel
theorem dX7_debtWithin_0 : decode cX7_debtWithin 0 = .ok (.iconst 0, 1) := by decide +kernel
theorem dX7_debtWithin_1 : decode cX7_debtWithin 1 = .ok (.istore_n 2, 1) := by decide +kernel
theorem dX7_debtWithin_2 : decode cX7_debtWithin 2 = .ok (.iconst 0, 1) := by decide +kernel
theorem dX7_debtWithin_3 : decode cX7_debtWithin 3 = .ok (.istore_n 3, 1) := by decide +kernel
theorem dX7_debtWithin_4 : decode cX7_debtWithin 4 = .ok (.iload_n 3, 1) := by decide +kernel
theorem dX7_debtWithin_5 : decode cX7_debtWithin 5 = .ok (.aload_n 0, 1) := by decide +kernel
theorem dX7_debtWithin_6 : decode cX7_debtWithin 6 = .ok (.getfield 24, 3) := by decide +kernel
theorem dX7_debtWithin_9 : decode cX7_debtWithin 9 = .ok (.if_icmp .ge 56, 3) := by decide +kernel
theorem dX7_debtWithin_12 : decode cX7_debtWithin 12 = .ok (.iload_n 3, 1) := by decide +kernel
theorem dX7_debtWithin_13 : decode cX7_debtWithin 13 = .ok (.iconst 1, 1) := by decide +kernel
theorem dX7_debtWithin_14 : decode cX7_debtWithin 14 = .ok (.iadd, 1) := by decide +kernel
theorem dX7_debtWithin_15 : decode cX7_debtWithin 15 = .ok (.istore 4, 2) := by decide +kernel
theorem dX7_debtWithin_17 : decode cX7_debtWithin 17 = .ok (.iload 4, 2) := by decide +kernel
theorem dX7_debtWithin_19 : decode cX7_debtWithin 19 = .ok (.aload_n 0, 1) := by decide +kernel
theorem dX7_debtWithin_20 : decode cX7_debtWithin 20 = .ok (.getfield 24, 3) := by decide +kernel
theorem dX7_debtWithin_23 : decode cX7_debtWithin 23 = .ok (.if_icmp .ge 36, 3) := by decide +kernel
theorem dX7_debtWithin_26 : decode cX7_debtWithin 26 = .ok (.iload_n 1, 1) := by decide +kernel
theorem dX7_debtWithin_27 : decode cX7_debtWithin 27 = .ok (.iload_n 3, 1) := by decide +kernel
theorem dX7_debtWithin_28 : decode cX7_debtWithin 28 = .ok (.invokestatic 68, 3) := by decide +kernel
theorem dX7_debtWithin_31 : decode cX7_debtWithin 31 = .ok (.ifCond .eq 22, 3) := by decide +kernel
theorem dX7_debtWithin_34 : decode cX7_debtWithin 34 = .ok (.iload_n 1, 1) := by decide +kernel
theorem dX7_debtWithin_35 : decode cX7_debtWithin 35 = .ok (.iload 4, 2) := by decide +kernel
theorem dX7_debtWithin_37 : decode cX7_debtWithin 37 = .ok (.invokestatic 68, 3) := by decide +kernel
theorem dX7_debtWithin_40 : decode cX7_debtWithin 40 = .ok (.ifCond .eq 13, 3) := by decide +kernel
theorem dX7_debtWithin_43 : decode cX7_debtWithin 43 = .ok (.iload_n 2, 1) := by decide +kernel
theorem dX7_debtWithin_44 : decode cX7_debtWithin 44 = .ok (.aload_n 0, 1) := by decide +kernel
theorem dX7_debtWithin_45 : decode cX7_debtWithin 45 = .ok (.iload_n 3, 1) := by decide +kernel
theorem dX7_debtWithin_46 : decode cX7_debtWithin 46 = .ok (.iload 4, 2) := by decide +kernel
theorem dX7_debtWithin_48 : decode cX7_debtWithin 48 = .ok (.invokevirtual 79, 3) := by decide +kernel
theorem dX7_debtWithin_51 : decode cX7_debtWithin 51 = .ok (.iadd, 1) := by decide +kernel
theorem dX7_debtWithin_52 : decode cX7_debtWithin 52 = .ok (.istore_n 2, 1) := by decide +kernel
theorem dX7_debtWithin_53 : decode cX7_debtWithin 53 = .ok (.iinc 4 1, 3) := by decide +kernel
theorem dX7_debtWithin_56 : decode cX7_debtWithin 56 = .ok (.goto (-39), 3) := by decide +kernel
theorem dX7_debtWithin_59 : decode cX7_debtWithin 59 = .ok (.iinc 3 1, 3) := by decide +kernel
theorem dX7_debtWithin_62 : decode cX7_debtWithin 62 = .ok (.goto (-58), 3) := by decide +kernel
theorem dX7_debtWithin_65 : decode cX7_debtWithin 65 = .ok (.iload_n 2, 1) := by decide +kernel
theorem dX7_debtWithin_66 : decode cX7_debtWithin 66 = .ok (.ireturn, 1) := by decide +kernel
theorem dX7_allDebt_0 : decode cX7_allDebt 0 = .ok (.aload_n 0, 1) := by decide +kernel
theorem dX7_allDebt_1 : decode cX7_allDebt 1 = .ok (.iconst 1, 1) := by decide +kernel
theorem dX7_allDebt_2 : decode cX7_allDebt 2 = .ok (.aload_n 0, 1) := by decide +kernel
theorem dX7_allDebt_3 : decode cX7_allDebt 3 = .ok (.getfield 24, 3) := by decide +kernel
theorem dX7_allDebt_6 : decode cX7_allDebt 6 = .ok (.ishl, 1) := by decide +kernel
theorem dX7_allDebt_7 : decode cX7_allDebt 7 = .ok (.iconst 1, 1) := by decide +kernel
theorem dX7_allDebt_8 : decode cX7_allDebt 8 = .ok (.isub, 1) := by decide +kernel
theorem dX7_allDebt_9 : decode cX7_allDebt 9 = .ok (.invokevirtual 85, 3) := by decide +kernel
theorem dX7_allDebt_12 : decode cX7_allDebt 12 = .ok (.ireturn, 1) := by decide +kernel
theorem dX9_all_0 : decode cX9_all 0 = .ok (.aload_n 0, 1) := by decide +kernel
theorem dX9_all_1 : decode cX9_all 1 = .ok (.invokevirtual 223, 3) := by decide +kernel
theorem dX9_all_4 : decode cX9_all 4 = .ok (.ifCond .ne 5, 3) := by decide +kernel
theorem dX9_all_7 : decode cX9_all 7 = .ok (.iconst (-1), 1) := by decide +kernel
theorem dX9_all_8 : decode cX9_all 8 = .ok (.ireturn, 1) := by decide +kernel
theorem dX9_all_9 : decode cX9_all 9 = .ok (.iload_n 1, 1) := by decide +kernel
theorem dX9_all_10 : decode cX9_all 10 = .ok (.tableswitch 111 0 9 #[54, 54, 54, 54, 60, 80, 88, 93, 101, 106], 54) := by decide +kernel
theorem dX9_all_64 : decode cX9_all 64 = .ok (.aload_n 0, 1) := by decide +kernel
theorem dX9_all_65 : decode cX9_all 65 = .ok (.iload_n 1, 1) := by decide +kernel
theorem dX9_all_66 : decode cX9_all 66 = .ok (.invokevirtual 356, 3) := by decide +kernel
theorem dX9_all_69 : decode cX9_all 69 = .ok (.ireturn, 1) := by decide +kernel
theorem dX9_all_70 : decode cX9_all 70 = .ok (.iconst 1, 1) := by decide +kernel
theorem dX9_all_71 : decode cX9_all 71 = .ok (.aload_n 0, 1) := by decide +kernel
theorem dX9_all_72 : decode cX9_all 72 = .ok (.getfield 19, 3) := by decide +kernel
theorem dX9_all_75 : decode cX9_all 75 = .ok (.getfield 359, 3) := by decide +kernel
theorem dX9_all_78 : decode cX9_all 78 = .ok (.ishl, 1) := by decide +kernel
theorem dX9_all_79 : decode cX9_all 79 = .ok (.iconst 1, 1) := by decide +kernel
theorem dX9_all_80 : decode cX9_all 80 = .ok (.isub, 1) := by decide +kernel
theorem dX9_all_81 : decode cX9_all 81 = .ok (.aload_n 0, 1) := by decide +kernel
theorem dX9_all_82 : decode cX9_all 82 = .ok (.getfield 58, 3) := by decide +kernel
theorem dX9_all_85 : decode cX9_all 85 = .ok (.getfield 362, 3) := by decide +kernel
theorem dX9_all_88 : decode cX9_all 88 = .ok (.isub, 1) := by decide +kernel
theorem dX9_all_89 : decode cX9_all 89 = .ok (.ireturn, 1) := by decide +kernel
theorem dX9_all_90 : decode cX9_all 90 = .ok (.aload_n 0, 1) := by decide +kernel
theorem dX9_all_91 : decode cX9_all 91 = .ok (.getfield 58, 3) := by decide +kernel
theorem dX9_all_94 : decode cX9_all 94 = .ok (.invokevirtual 289, 3) := by decide +kernel
theorem dX9_all_97 : decode cX9_all 97 = .ok (.ireturn, 1) := by decide +kernel
theorem dX9_all_98 : decode cX9_all 98 = .ok (.aload_n 0, 1) := by decide +kernel
theorem dX9_all_99 : decode cX9_all 99 = .ok (.invokevirtual 365, 3) := by decide +kernel
theorem dX9_all_102 : decode cX9_all 102 = .ok (.ireturn, 1) := by decide +kernel
theorem dX9_all_103 : decode cX9_all 103 = .ok (.aload_n 0, 1) := by decide +kernel
theorem dX9_all_104 : decode cX9_all 104 = .ok (.getfield 58, 3) := by decide +kernel
theorem dX9_all_107 : decode cX9_all 107 = .ok (.getfield 269, 3) := by decide +kernel
theorem dX9_all_110 : decode cX9_all 110 = .ok (.ireturn, 1) := by decide +kernel
theorem dX9_all_111 : decode cX9_all 111 = .ok (.aload_n 0, 1) := by decide +kernel
theorem dX9_all_112 : decode cX9_all 112 = .ok (.invokevirtual 368, 3) := by decide +kernel
theorem dX9_all_115 : decode cX9_all 115 = .ok (.ireturn, 1) := by decide +kernel
theorem dX9_all_116 : decode cX9_all 116 = .ok (.aload_n 0, 1) := by decide +kernel
theorem dX9_all_117 : decode cX9_all 117 = .ok (.invokevirtual 371, 3) := by decide +kernel
theorem dX9_all_120 : decode cX9_all 120 = .ok (.ireturn, 1) := by decide +kernel
theorem dX9_all_121 : decode cX9_all 121 = .ok (.iconst (-1), 1) := by decide +kernel
theorem dX9_all_122 : decode cX9_all 122 = .ok (.ireturn, 1) := by decide +kernel
theorem dX9_isPerson_0 : decode cX9_isPerson 0 = .ok (.iload_n 1, 1) := by decide +kernel
theorem dX9_isPerson_1 : decode cX9_isPerson 1 = .ok (.ifCond .lt 18, 3) := by decide +kernel
theorem dX9_isPerson_4 : decode cX9_isPerson 4 = .ok (.iload_n 1, 1) := by decide +kernel
theorem dX9_isPerson_5 : decode cX9_isPerson 5 = .ok (.aload_n 0, 1) := by decide +kernel
theorem dX9_isPerson_6 : decode cX9_isPerson 6 = .ok (.getfield 19, 3) := by decide +kernel
theorem dX9_isPerson_9 : decode cX9_isPerson 9 = .ok (.getfield 391, 3) := by decide +kernel
theorem dX9_isPerson_12 : decode cX9_isPerson 12 = .ok (.if_icmp .ge 7, 3) := by decide +kernel
theorem dX9_isPerson_15 : decode cX9_isPerson 15 = .ok (.iconst 1, 1) := by decide +kernel
theorem dX9_isPerson_16 : decode cX9_isPerson 16 = .ok (.goto 4, 3) := by decide +kernel
theorem dX9_isPerson_19 : decode cX9_isPerson 19 = .ok (.iconst 0, 1) := by decide +kernel
theorem dX9_isPerson_20 : decode cX9_isPerson 20 = .ok (.ireturn, 1) := by decide +kernel
theorem dX9_areTwo_0 : decode cX9_areTwo 0 = .ok (.aload_n 0, 1) := by decide +kernel
theorem dX9_areTwo_1 : decode cX9_areTwo 1 = .ok (.iload_n 1, 1) := by decide +kernel
theorem dX9_areTwo_2 : decode cX9_areTwo 2 = .ok (.invokevirtual 132, 3) := by decide +kernel
theorem dX9_areTwo_5 : decode cX9_areTwo 5 = .ok (.ifCond .eq 20, 3) := by decide +kernel
theorem dX9_areTwo_8 : decode cX9_areTwo 8 = .ok (.aload_n 0, 1) := by decide +kernel
theorem dX9_areTwo_9 : decode cX9_areTwo 9 = .ok (.iload_n 2, 1) := by decide +kernel
theorem dX9_areTwo_10 : decode cX9_areTwo 10 = .ok (.invokevirtual 132, 3) := by decide +kernel
theorem dX9_areTwo_13 : decode cX9_areTwo 13 = .ok (.ifCond .eq 12, 3) := by decide +kernel
theorem dX9_areTwo_16 : decode cX9_areTwo 16 = .ok (.iload_n 1, 1) := by decide +kernel
theorem dX9_areTwo_17 : decode cX9_areTwo 17 = .ok (.iload_n 2, 1) := by decide +kernel
theorem dX9_areTwo_18 : decode cX9_areTwo 18 = .ok (.if_icmp .eq 7, 3) := by decide +kernel
theorem dX9_areTwo_21 : decode cX9_areTwo 21 = .ok (.iconst 1, 1) := by decide +kernel
theorem dX9_areTwo_22 : decode cX9_areTwo 22 = .ok (.goto 4, 3) := by decide +kernel
theorem dX9_areTwo_25 : decode cX9_areTwo 25 = .ok (.iconst 0, 1) := by decide +kernel
theorem dX9_areTwo_26 : decode cX9_areTwo 26 = .ok (.ireturn, 1) := by decide +kernel
theorem dX9_appealIn_0 : decode cX9_appealIn 0 = .ok (.aload_n 0, 1) := by decide +kernel
theorem dX9_appealIn_1 : decode cX9_appealIn 1 = .ok (.iload_n 2, 1) := by decide +kernel
theorem dX9_appealIn_2 : decode cX9_appealIn 2 = .ok (.iload_n 3, 1) := by decide +kernel
theorem dX9_appealIn_3 : decode cX9_appealIn 3 = .ok (.invokevirtual 205, 3) := by decide +kernel
theorem dX9_appealIn_6 : decode cX9_appealIn 6 = .ok (.ifCond .eq 21, 3) := by decide +kernel
theorem dX9_appealIn_9 : decode cX9_appealIn 9 = .ok (.aload_n 1, 1) := by decide +kernel
theorem dX9_appealIn_10 : decode cX9_appealIn 10 = .ok (.iload_n 2, 1) := by decide +kernel
theorem dX9_appealIn_11 : decode cX9_appealIn 11 = .ok (.iload_n 3, 1) := by decide +kernel
theorem dX9_appealIn_12 : decode cX9_appealIn 12 = .ok (.invokevirtual 184, 3) := by decide +kernel
theorem dX9_appealIn_15 : decode cX9_appealIn 15 = .ok (.iconst 2, 1) := by decide +kernel
theorem dX9_appealIn_16 : decode cX9_appealIn 16 = .ok (.if_icmp .lt 11, 3) := by decide +kernel
theorem dX9_appealIn_19 : decode cX9_appealIn 19 = .ok (.aload_n 1, 1) := by decide +kernel
theorem dX9_appealIn_20 : decode cX9_appealIn 20 = .ok (.getfield 209, 3) := by decide +kernel
theorem dX9_appealIn_23 : decode cX9_appealIn 23 = .ok (.iconst 2, 1) := by decide +kernel
theorem dX9_appealIn_24 : decode cX9_appealIn 24 = .ok (.if_icmp .ge 5, 3) := by decide +kernel
theorem dX9_appealIn_27 : decode cX9_appealIn 27 = .ok (.iconst 0, 1) := by decide +kernel
theorem dX9_appealIn_28 : decode cX9_appealIn 28 = .ok (.ireturn, 1) := by decide +kernel
theorem dX9_appealIn_29 : decode cX9_appealIn 29 = .ok (.aload_n 1, 1) := by decide +kernel
theorem dX9_appealIn_30 : decode cX9_appealIn 30 = .ok (.dup, 1) := by decide +kernel
theorem dX9_appealIn_31 : decode cX9_appealIn 31 = .ok (.getfield 209, 3) := by decide +kernel
theorem dX9_appealIn_34 : decode cX9_appealIn 34 = .ok (.iconst 2, 1) := by decide +kernel
theorem dX9_appealIn_35 : decode cX9_appealIn 35 = .ok (.isub, 1) := by decide +kernel
theorem dX9_appealIn_36 : decode cX9_appealIn 36 = .ok (.putfield 209, 3) := by decide +kernel
theorem dX9_appealIn_39 : decode cX9_appealIn 39 = .ok (.aload_n 1, 1) := by decide +kernel
theorem dX9_appealIn_40 : decode cX9_appealIn 40 = .ok (.iload_n 2, 1) := by decide +kernel
theorem dX9_appealIn_41 : decode cX9_appealIn 41 = .ok (.iload_n 3, 1) := by decide +kernel
theorem dX9_appealIn_42 : decode cX9_appealIn 42 = .ok (.aload_n 1, 1) := by decide +kernel
theorem dX9_appealIn_43 : decode cX9_appealIn 43 = .ok (.iload_n 2, 1) := by decide +kernel
theorem dX9_appealIn_44 : decode cX9_appealIn 44 = .ok (.iload_n 3, 1) := by decide +kernel
theorem dX9_appealIn_45 : decode cX9_appealIn 45 = .ok (.invokevirtual 184, 3) := by decide +kernel
theorem dX9_appealIn_48 : decode cX9_appealIn 48 = .ok (.iconst 2, 1) := by decide +kernel
theorem dX9_appealIn_49 : decode cX9_appealIn 49 = .ok (.idiv, 1) := by decide +kernel
theorem dX9_appealIn_50 : decode cX9_appealIn 50 = .ok (.ineg, 1) := by decide +kernel
theorem dX9_appealIn_51 : decode cX9_appealIn 51 = .ok (.invokevirtual 418, 3) := by decide +kernel
theorem dX9_appealIn_54 : decode cX9_appealIn 54 = .ok (.iconst 1, 1) := by decide +kernel
theorem dX9_appealIn_55 : decode cX9_appealIn 55 = .ok (.ireturn, 1) := by decide +kernel
theorem dX4_keep_0 : decode cX4_keep 0 = .ok (.aload_n 0, 1) := by decide +kernel
theorem dX4_keep_1 : decode cX4_keep 1 = .ok (.getfield 21, 3) := by decide +kernel
theorem dX4_keep_4 : decode cX4_keep 4 = .ok (.bipush 40, 2) := by decide +kernel
theorem dX4_keep_6 : decode cX4_keep 6 = .ok (.if_icmp .ge 16, 3) := by decide +kernel
theorem dX4_keep_9 : decode cX4_keep 9 = .ok (.aload_n 0, 1) := by decide +kernel
theorem dX4_keep_10 : decode cX4_keep 10 = .ok (.dup, 1) := by decide +kernel
theorem dX4_keep_11 : decode cX4_keep 11 = .ok (.getfield 21, 3) := by decide +kernel
theorem dX4_keep_14 : decode cX4_keep 14 = .ok (.iconst 1, 1) := by decide +kernel
theorem dX4_keep_15 : decode cX4_keep 15 = .ok (.iadd, 1) := by decide +kernel
theorem dX4_keep_16 : decode cX4_keep 16 = .ok (.putfield 21, 3) := by decide +kernel
theorem dX4_keep_19 : decode cX4_keep 19 = .ok (.goto 16, 3) := by decide +kernel
theorem dX4_keep_22 : decode cX4_keep 22 = .ok (.aload_n 0, 1) := by decide +kernel
theorem dX4_keep_23 : decode cX4_keep 23 = .ok (.aload_n 0, 1) := by decide +kernel
theorem dX4_keep_24 : decode cX4_keep 24 = .ok (.getfield 17, 3) := by decide +kernel
theorem dX4_keep_27 : decode cX4_keep 27 = .ok (.iconst 1, 1) := by decide +kernel
theorem dX4_keep_28 : decode cX4_keep 28 = .ok (.iadd, 1) := by decide +kernel
theorem dX4_keep_29 : decode cX4_keep 29 = .ok (.bipush 41, 2) := by decide +kernel
theorem dX4_keep_31 : decode cX4_keep 31 = .ok (.irem, 1) := by decide +kernel
theorem dX4_keep_32 : decode cX4_keep 32 = .ok (.putfield 17, 3) := by decide +kernel
theorem dX4_keep_35 : decode cX4_keep 35 = .ok (.return_, 1) := by decide +kernel
theorem dX4_last_0 : decode cX4_last 0 = .ok (.aload_n 0, 1) := by decide +kernel
theorem dX4_last_1 : decode cX4_last 1 = .ok (.getfield 17, 3) := by decide +kernel
theorem dX4_last_4 : decode cX4_last 4 = .ok (.aload_n 0, 1) := by decide +kernel
theorem dX4_last_5 : decode cX4_last 5 = .ok (.getfield 21, 3) := by decide +kernel
theorem dX4_last_8 : decode cX4_last 8 = .ok (.iadd, 1) := by decide +kernel
theorem dX4_last_9 : decode cX4_last 9 = .ok (.bipush 41, 2) := by decide +kernel
theorem dX4_last_11 : decode cX4_last 11 = .ok (.irem, 1) := by decide +kernel
theorem dX4_last_12 : decode cX4_last 12 = .ok (.istore_n 1, 1) := by decide +kernel
theorem dX4_last_13 : decode cX4_last 13 = .ok (.iload_n 1, 1) := by decide +kernel
theorem dX4_last_14 : decode cX4_last 14 = .ok (.ifCond .lt 21, 3) := by decide +kernel
theorem dX4_last_17 : decode cX4_last 17 = .ok (.iload_n 1, 1) := by decide +kernel
theorem dX4_last_18 : decode cX4_last 18 = .ok (.aload_n 0, 1) := by decide +kernel
theorem dX4_last_19 : decode cX4_last 19 = .ok (.getfield 13, 3) := by decide +kernel
theorem dX4_last_22 : decode cX4_last 22 = .ok (.arraylength, 1) := by decide +kernel
theorem dX4_last_23 : decode cX4_last 23 = .ok (.if_icmp .ge 12, 3) := by decide +kernel
theorem dX4_last_26 : decode cX4_last 26 = .ok (.aload_n 0, 1) := by decide +kernel
theorem dX4_last_27 : decode cX4_last 27 = .ok (.getfield 13, 3) := by decide +kernel
theorem dX4_last_30 : decode cX4_last 30 = .ok (.iload_n 1, 1) := by decide +kernel
theorem dX4_last_31 : decode cX4_last 31 = .ok (.aaload, 1) := by decide +kernel
theorem dX4_last_32 : decode cX4_last 32 = .ok (.goto 4, 3) := by decide +kernel
theorem dX4_last_35 : decode cX4_last 35 = .ok (.aconst_null, 1) := by decide +kernel
theorem dX4_last_36 : decode cX4_last 36 = .ok (.astore_n 2, 1) := by decide +kernel
theorem dX4_last_37 : decode cX4_last 37 = .ok (.aload_n 2, 1) := by decide +kernel
theorem dX4_last_38 : decode cX4_last 38 = .ok (.ifnonnull 13, 3) := by decide +kernel
theorem dX4_last_41 : decode cX4_last 41 = .ok (.new 11, 3) := by decide +kernel
theorem dX4_last_44 : decode cX4_last 44 = .ok (.dup, 1) := by decide +kernel
theorem dX4_last_45 : decode cX4_last 45 = .ok (.invokespecial 24, 3) := by decide +kernel
theorem dX4_last_48 : decode cX4_last 48 = .ok (.goto 4, 3) := by decide +kernel
theorem dX4_last_51 : decode cX4_last 51 = .ok (.aload_n 2, 1) := by decide +kernel
theorem dX4_last_52 : decode cX4_last 52 = .ok (.areturn, 1) := by decide +kernel
theorem dX4_offer_0 : decode cX4_offer 0 = .ok (.aload_n 0, 1) := by decide +kernel
theorem dX4_offer_1 : decode cX4_offer 1 = .ok (.invokevirtual 25, 3) := by decide +kernel
theorem dX4_offer_4 : decode cX4_offer 4 = .ok (.aload_n 1, 1) := by decide +kernel
theorem dX4_offer_5 : decode cX4_offer 5 = .ok (.invokevirtual 29, 3) := by decide +kernel
theorem dX4_offer_8 : decode cX4_offer 8 = .ok (.return_, 1) := by decide +kernel
theorem dX9_appeal_0 : decode cX9_appeal 0 = .ok (.aload_n 0, 1) := by decide +kernel
theorem dX9_appeal_1 : decode cX9_appeal 1 = .ok (.getfield 75, 3) := by decide +kernel
theorem dX9_appeal_4 : decode cX9_appeal 4 = .ok (.aload_n 0, 1) := by decide +kernel
theorem dX9_appeal_5 : decode cX9_appeal 5 = .ok (.getfield 58, 3) := by decide +kernel
theorem dX9_appeal_8 : decode cX9_appeal 8 = .ok (.invokevirtual 173, 3) := by decide +kernel
theorem dX9_appeal_11 : decode cX9_appeal 11 = .ok (.aload_n 0, 1) := by decide +kernel
theorem dX9_appeal_12 : decode cX9_appeal 12 = .ok (.aload_n 0, 1) := by decide +kernel
theorem dX9_appeal_13 : decode cX9_appeal 13 = .ok (.getfield 58, 3) := by decide +kernel
theorem dX9_appeal_16 : decode cX9_appeal 16 = .ok (.iload_n 1, 1) := by decide +kernel
theorem dX9_appeal_17 : decode cX9_appeal 17 = .ok (.iload_n 2, 1) := by decide +kernel
theorem dX9_appeal_18 : decode cX9_appeal 18 = .ok (.invokevirtual 198, 3) := by decide +kernel
theorem dX9_appeal_21 : decode cX9_appeal 21 = .ok (.ifCond .ne 5, 3) := by decide +kernel
theorem dX9_appeal_24 : decode cX9_appeal 24 = .ok (.iconst (-1), 1) := by decide +kernel
theorem dX9_appeal_25 : decode cX9_appeal 25 = .ok (.ireturn, 1) := by decide +kernel
theorem dX9_appeal_26 : decode cX9_appeal 26 = .ok (.aload_n 0, 1) := by decide +kernel
theorem dX9_appeal_27 : decode cX9_appeal 27 = .ok (.getfield 75, 3) := by decide +kernel
theorem dX9_appeal_30 : decode cX9_appeal 30 = .ok (.invokevirtual 181, 3) := by decide +kernel
theorem dX9_appeal_33 : decode cX9_appeal 33 = .ok (.aload_n 0, 1) := by decide +kernel
theorem dX9_appeal_34 : decode cX9_appeal 34 = .ok (.getfield 58, 3) := by decide +kernel
theorem dX9_appeal_37 : decode cX9_appeal 37 = .ok (.iload_n 1, 1) := by decide +kernel
theorem dX9_appeal_38 : decode cX9_appeal 38 = .ok (.iload_n 2, 1) := by decide +kernel
theorem dX9_appeal_39 : decode cX9_appeal 39 = .ok (.invokevirtual 184, 3) := by decide +kernel
theorem dX9_appeal_42 : decode cX9_appeal 42 = .ok (.ireturn, 1) := by decide +kernel
theorem dX9_lawAt_0 : decode cX9_lawAt 0 = .ok (.iload_n 1, 1) := by decide +kernel
theorem dX9_lawAt_1 : decode cX9_lawAt 1 = .ok (.ifCond .lt 21, 3) := by decide +kernel
theorem dX9_lawAt_4 : decode cX9_lawAt 4 = .ok (.iload_n 1, 1) := by decide +kernel
theorem dX9_lawAt_5 : decode cX9_lawAt 5 = .ok (.aload_n 0, 1) := by decide +kernel
theorem dX9_lawAt_6 : decode cX9_lawAt 6 = .ok (.getfield 28, 3) := by decide +kernel
theorem dX9_lawAt_9 : decode cX9_lawAt 9 = .ok (.arraylength, 1) := by decide +kernel
theorem dX9_lawAt_10 : decode cX9_lawAt 10 = .ok (.if_icmp .ge 12, 3) := by decide +kernel
theorem dX9_lawAt_13 : decode cX9_lawAt 13 = .ok (.aload_n 0, 1) := by decide +kernel
theorem dX9_lawAt_14 : decode cX9_lawAt 14 = .ok (.getfield 28, 3) := by decide +kernel
theorem dX9_lawAt_17 : decode cX9_lawAt 17 = .ok (.iload_n 1, 1) := by decide +kernel
theorem dX9_lawAt_18 : decode cX9_lawAt 18 = .ok (.aaload, 1) := by decide +kernel
theorem dX9_lawAt_19 : decode cX9_lawAt 19 = .ok (.goto 4, 3) := by decide +kernel
theorem dX9_lawAt_22 : decode cX9_lawAt 22 = .ok (.aconst_null, 1) := by decide +kernel
theorem dX9_lawAt_23 : decode cX9_lawAt 23 = .ok (.astore_n 2, 1) := by decide +kernel
theorem dX9_lawAt_24 : decode cX9_lawAt 24 = .ok (.aload_n 2, 1) := by decide +kernel
theorem dX9_lawAt_25 : decode cX9_lawAt 25 = .ok (.ifnonnull 13, 3) := by decide +kernel
theorem dX9_lawAt_28 : decode cX9_lawAt 28 = .ok (.new 26, 3) := by decide +kernel
theorem dX9_lawAt_31 : decode cX9_lawAt 31 = .ok (.dup, 1) := by decide +kernel
theorem dX9_lawAt_32 : decode cX9_lawAt 32 = .ok (.invokespecial 108, 3) := by decide +kernel
theorem dX9_lawAt_35 : decode cX9_lawAt 35 = .ok (.goto 4, 3) := by decide +kernel
theorem dX9_lawAt_38 : decode cX9_lawAt 38 = .ok (.aload_n 2, 1) := by decide +kernel
theorem dX9_lawAt_39 : decode cX9_lawAt 39 = .ok (.areturn, 1) := by decide +kernel
theorem dX0_mostWorth_0 : decode cX0_mostWorth 0 = .ok (.aload_n 0, 1) := by decide +kernel
theorem dX0_mostWorth_1 : decode cX0_mostWorth 1 = .ok (.getfield 9, 3) := by decide +kernel
theorem dX0_mostWorth_4 : decode cX0_mostWorth 4 = .ok (.iconst 0, 1) := by decide +kernel
theorem dX0_mostWorth_5 : decode cX0_mostWorth 5 = .ok (.invokestatic 74, 3) := by decide +kernel
theorem dX0_mostWorth_8 : decode cX0_mostWorth 8 = .ok (.ireturn, 1) := by decide +kernel
theorem dX0_whoOf_0 : decode cX0_whoOf 0 = .ok (.aload_n 0, 1) := by decide +kernel
theorem dX0_whoOf_1 : decode cX0_whoOf 1 = .ok (.getfield 18, 3) := by decide +kernel
theorem dX0_whoOf_4 : decode cX0_whoOf 4 = .ok (.iconst 3, 1) := by decide +kernel
theorem dX0_whoOf_5 : decode cX0_whoOf 5 = .ok (.iload_n 1, 1) := by decide +kernel
theorem dX0_whoOf_6 : decode cX0_whoOf 6 = .ok (.imul, 1) := by decide +kernel
theorem dX0_whoOf_7 : decode cX0_whoOf 7 = .ok (.invokestatic 74, 3) := by decide +kernel
theorem dX0_whoOf_10 : decode cX0_whoOf 10 = .ok (.ireturn, 1) := by decide +kernel
theorem dX0_wrongsBy_0 : decode cX0_wrongsBy 0 = .ok (.iconst 0, 1) := by decide +kernel
theorem dX0_wrongsBy_1 : decode cX0_wrongsBy 1 = .ok (.istore_n 2, 1) := by decide +kernel
theorem dX0_wrongsBy_2 : decode cX0_wrongsBy 2 = .ok (.iconst 0, 1) := by decide +kernel
theorem dX0_wrongsBy_3 : decode cX0_wrongsBy 3 = .ok (.istore_n 3, 1) := by decide +kernel
theorem dX0_wrongsBy_4 : decode cX0_wrongsBy 4 = .ok (.iload_n 3, 1) := by decide +kernel
theorem dX0_wrongsBy_5 : decode cX0_wrongsBy 5 = .ok (.aload_n 0, 1) := by decide +kernel
theorem dX0_wrongsBy_6 : decode cX0_wrongsBy 6 = .ok (.getfield 29, 3) := by decide +kernel
theorem dX0_wrongsBy_9 : decode cX0_wrongsBy 9 = .ok (.if_icmp .ge 28, 3) := by decide +kernel
theorem dX0_wrongsBy_12 : decode cX0_wrongsBy 12 = .ok (.iload_n 2, 1) := by decide +kernel
theorem dX0_wrongsBy_13 : decode cX0_wrongsBy 13 = .ok (.aload_n 0, 1) := by decide +kernel
theorem dX0_wrongsBy_14 : decode cX0_wrongsBy 14 = .ok (.iload_n 3, 1) := by decide +kernel
theorem dX0_wrongsBy_15 : decode cX0_wrongsBy 15 = .ok (.invokevirtual 60, 3) := by decide +kernel
theorem dX0_wrongsBy_18 : decode cX0_wrongsBy 18 = .ok (.iload_n 1, 1) := by decide +kernel
theorem dX0_wrongsBy_19 : decode cX0_wrongsBy 19 = .ok (.if_icmp .ne 9, 3) := by decide +kernel
theorem dX0_wrongsBy_22 : decode cX0_wrongsBy 22 = .ok (.iconst 1, 1) := by decide +kernel
theorem dX0_wrongsBy_23 : decode cX0_wrongsBy 23 = .ok (.iload_n 3, 1) := by decide +kernel
theorem dX0_wrongsBy_24 : decode cX0_wrongsBy 24 = .ok (.ishl, 1) := by decide +kernel
theorem dX0_wrongsBy_25 : decode cX0_wrongsBy 25 = .ok (.goto 4, 3) := by decide +kernel
theorem dX0_wrongsBy_28 : decode cX0_wrongsBy 28 = .ok (.iconst 0, 1) := by decide +kernel
theorem dX0_wrongsBy_29 : decode cX0_wrongsBy 29 = .ok (.ior, 1) := by decide +kernel
theorem dX0_wrongsBy_30 : decode cX0_wrongsBy 30 = .ok (.istore_n 2, 1) := by decide +kernel
theorem dX0_wrongsBy_31 : decode cX0_wrongsBy 31 = .ok (.iinc 3 1, 3) := by decide +kernel
theorem dX0_wrongsBy_34 : decode cX0_wrongsBy 34 = .ok (.goto (-30), 3) := by decide +kernel
theorem dX0_wrongsBy_37 : decode cX0_wrongsBy 37 = .ok (.iload_n 2, 1) := by decide +kernel
theorem dX0_wrongsBy_38 : decode cX0_wrongsBy 38 = .ok (.ireturn, 1) := by decide +kernel
theorem dX2_pop_0 : decode cX2_pop 0 = .ok (.aload_n 0, 1) := by decide +kernel
theorem dX2_pop_1 : decode cX2_pop 1 = .ok (.getfield 22, 3) := by decide +kernel
theorem dX2_pop_4 : decode cX2_pop 4 = .ok (.ifCond .le 32, 3) := by decide +kernel
theorem dX2_pop_7 : decode cX2_pop 7 = .ok (.aload_n 0, 1) := by decide +kernel
theorem dX2_pop_8 : decode cX2_pop 8 = .ok (.getfield 22, 3) := by decide +kernel
theorem dX2_pop_11 : decode cX2_pop 11 = .ok (.bipush 64, 2) := by decide +kernel
theorem dX2_pop_13 : decode cX2_pop 13 = .ok (.if_icmp .gt 23, 3) := by decide +kernel
theorem dX2_pop_16 : decode cX2_pop 16 = .ok (.aload_n 0, 1) := by decide +kernel
theorem dX2_pop_17 : decode cX2_pop 17 = .ok (.dup, 1) := by decide +kernel
theorem dX2_pop_18 : decode cX2_pop 18 = .ok (.getfield 22, 3) := by decide +kernel
theorem dX2_pop_21 : decode cX2_pop 21 = .ok (.iconst 1, 1) := by decide +kernel
theorem dX2_pop_22 : decode cX2_pop 22 = .ok (.isub, 1) := by decide +kernel
theorem dX2_pop_23 : decode cX2_pop 23 = .ok (.putfield 22, 3) := by decide +kernel
theorem dX2_pop_26 : decode cX2_pop 26 = .ok (.aload_n 0, 1) := by decide +kernel
theorem dX2_pop_27 : decode cX2_pop 27 = .ok (.getfield 15, 3) := by decide +kernel
theorem dX2_pop_30 : decode cX2_pop 30 = .ok (.aload_n 0, 1) := by decide +kernel
theorem dX2_pop_31 : decode cX2_pop 31 = .ok (.getfield 22, 3) := by decide +kernel
theorem dX2_pop_34 : decode cX2_pop 34 = .ok (.iaload, 1) := by decide +kernel
theorem dX2_pop_35 : decode cX2_pop 35 = .ok (.ireturn, 1) := by decide +kernel
theorem dX2_pop_36 : decode cX2_pop 36 = .ok (.iconst 0, 1) := by decide +kernel
theorem dX2_pop_37 : decode cX2_pop 37 = .ok (.ireturn, 1) := by decide +kernel
theorem dX2_joined_0 : decode cX2_joined 0 = .ok (.iload_n 0, 1) := by decide +kernel
theorem dX2_joined_1 : decode cX2_joined 1 = .ok (.tableswitch 181 38 62 #[177, 181, 181, 181, 123, 115, 181, 119, 181, 127, 181, 181, 181, 181, 181, 181, 181, 181, 181, 181, 181, 181, 153, 141, 165], 115) := by decide +kernel
theorem dX2_joined_116 : decode cX2_joined 116 = .ok (.lload_n 1, 1) := by decide +kernel
theorem dX2_joined_117 : decode cX2_joined 117 = .ok (.lload_n 3, 1) := by decide +kernel
theorem dX2_joined_118 : decode cX2_joined 118 = .ok (.ladd, 1) := by decide +kernel
theorem dX2_joined_119 : decode cX2_joined 119 = .ok (.lreturn, 1) := by decide +kernel
theorem dX2_joined_120 : decode cX2_joined 120 = .ok (.lload_n 1, 1) := by decide +kernel
theorem dX2_joined_121 : decode cX2_joined 121 = .ok (.lload_n 3, 1) := by decide +kernel
theorem dX2_joined_122 : decode cX2_joined 122 = .ok (.lsub, 1) := by decide +kernel
theorem dX2_joined_123 : decode cX2_joined 123 = .ok (.lreturn, 1) := by decide +kernel
theorem dX2_joined_124 : decode cX2_joined 124 = .ok (.lload_n 1, 1) := by decide +kernel
theorem dX2_joined_125 : decode cX2_joined 125 = .ok (.lload_n 3, 1) := by decide +kernel
theorem dX2_joined_126 : decode cX2_joined 126 = .ok (.lmul, 1) := by decide +kernel
theorem dX2_joined_127 : decode cX2_joined 127 = .ok (.lreturn, 1) := by decide +kernel
theorem dX2_joined_128 : decode cX2_joined 128 = .ok (.lload_n 3, 1) := by decide +kernel
theorem dX2_joined_129 : decode cX2_joined 129 = .ok (.lconst 0, 1) := by decide +kernel
theorem dX2_joined_130 : decode cX2_joined 130 = .ok (.lcmp, 1) := by decide +kernel
theorem dX2_joined_131 : decode cX2_joined 131 = .ok (.ifCond .ne 7, 3) := by decide +kernel
theorem dX2_joined_134 : decode cX2_joined 134 = .ok (.lconst 0, 1) := by decide +kernel
theorem dX2_joined_135 : decode cX2_joined 135 = .ok (.goto 6, 3) := by decide +kernel
theorem dX2_joined_138 : decode cX2_joined 138 = .ok (.lload_n 1, 1) := by decide +kernel
theorem dX2_joined_139 : decode cX2_joined 139 = .ok (.lload_n 3, 1) := by decide +kernel
theorem dX2_joined_140 : decode cX2_joined 140 = .ok (.ldiv, 1) := by decide +kernel
theorem dX2_joined_141 : decode cX2_joined 141 = .ok (.lreturn, 1) := by decide +kernel
theorem dX2_joined_142 : decode cX2_joined 142 = .ok (.lload_n 1, 1) := by decide +kernel
theorem dX2_joined_143 : decode cX2_joined 143 = .ok (.lload_n 3, 1) := by decide +kernel
theorem dX2_joined_144 : decode cX2_joined 144 = .ok (.lcmp, 1) := by decide +kernel
theorem dX2_joined_145 : decode cX2_joined 145 = .ok (.ifCond .ne 7, 3) := by decide +kernel
theorem dX2_joined_148 : decode cX2_joined 148 = .ok (.lconst 1, 1) := by decide +kernel
theorem dX2_joined_149 : decode cX2_joined 149 = .ok (.goto 4, 3) := by decide +kernel
theorem dX2_joined_152 : decode cX2_joined 152 = .ok (.lconst 0, 1) := by decide +kernel
theorem dX2_joined_153 : decode cX2_joined 153 = .ok (.lreturn, 1) := by decide +kernel
theorem dX2_joined_154 : decode cX2_joined 154 = .ok (.lload_n 1, 1) := by decide +kernel
theorem dX2_joined_155 : decode cX2_joined 155 = .ok (.lload_n 3, 1) := by decide +kernel
theorem dX2_joined_156 : decode cX2_joined 156 = .ok (.lcmp, 1) := by decide +kernel
theorem dX2_joined_157 : decode cX2_joined 157 = .ok (.ifCond .ge 7, 3) := by decide +kernel
theorem dX2_joined_160 : decode cX2_joined 160 = .ok (.lconst 1, 1) := by decide +kernel
theorem dX2_joined_161 : decode cX2_joined 161 = .ok (.goto 4, 3) := by decide +kernel
theorem dX2_joined_164 : decode cX2_joined 164 = .ok (.lconst 0, 1) := by decide +kernel
theorem dX2_joined_165 : decode cX2_joined 165 = .ok (.lreturn, 1) := by decide +kernel
theorem dX2_joined_166 : decode cX2_joined 166 = .ok (.lload_n 1, 1) := by decide +kernel
theorem dX2_joined_167 : decode cX2_joined 167 = .ok (.lload_n 3, 1) := by decide +kernel
theorem dX2_joined_168 : decode cX2_joined 168 = .ok (.lcmp, 1) := by decide +kernel
theorem dX2_joined_169 : decode cX2_joined 169 = .ok (.ifCond .le 7, 3) := by decide +kernel
theorem dX2_joined_172 : decode cX2_joined 172 = .ok (.lconst 1, 1) := by decide +kernel
theorem dX2_joined_173 : decode cX2_joined 173 = .ok (.goto 4, 3) := by decide +kernel
theorem dX2_joined_176 : decode cX2_joined 176 = .ok (.lconst 0, 1) := by decide +kernel
theorem dX2_joined_177 : decode cX2_joined 177 = .ok (.lreturn, 1) := by decide +kernel
theorem dX2_joined_178 : decode cX2_joined 178 = .ok (.lload_n 1, 1) := by decide +kernel
theorem dX2_joined_179 : decode cX2_joined 179 = .ok (.lload_n 3, 1) := by decide +kernel
theorem dX2_joined_180 : decode cX2_joined 180 = .ok (.land, 1) := by decide +kernel
theorem dX2_joined_181 : decode cX2_joined 181 = .ok (.lreturn, 1) := by decide +kernel
theorem dX2_joined_182 : decode cX2_joined 182 = .ok (.lload_n 1, 1) := by decide +kernel
theorem dX2_joined_183 : decode cX2_joined 183 = .ok (.lload_n 3, 1) := by decide +kernel
theorem dX2_joined_184 : decode cX2_joined 184 = .ok (.lor, 1) := by decide +kernel
theorem dX2_joined_185 : decode cX2_joined 185 = .ok (.lreturn, 1) := by decide +kernel
theorem dX2_push_0 : decode cX2_push 0 = .ok (.aload_n 0, 1) := by decide +kernel
theorem dX2_push_1 : decode cX2_push 1 = .ok (.getfield 22, 3) := by decide +kernel
theorem dX2_push_4 : decode cX2_push 4 = .ok (.ifCond .lt 32, 3) := by decide +kernel
theorem dX2_push_7 : decode cX2_push 7 = .ok (.aload_n 0, 1) := by decide +kernel
theorem dX2_push_8 : decode cX2_push 8 = .ok (.getfield 22, 3) := by decide +kernel
theorem dX2_push_11 : decode cX2_push 11 = .ok (.bipush 64, 2) := by decide +kernel
theorem dX2_push_13 : decode cX2_push 13 = .ok (.if_icmp .ge 23, 3) := by decide +kernel
theorem dX2_push_16 : decode cX2_push 16 = .ok (.aload_n 0, 1) := by decide +kernel
theorem dX2_push_17 : decode cX2_push 17 = .ok (.getfield 15, 3) := by decide +kernel
theorem dX2_push_20 : decode cX2_push 20 = .ok (.aload_n 0, 1) := by decide +kernel
theorem dX2_push_21 : decode cX2_push 21 = .ok (.getfield 22, 3) := by decide +kernel
theorem dX2_push_24 : decode cX2_push 24 = .ok (.iload_n 1, 1) := by decide +kernel
theorem dX2_push_25 : decode cX2_push 25 = .ok (.iastore, 1) := by decide +kernel
theorem dX2_push_26 : decode cX2_push 26 = .ok (.aload_n 0, 1) := by decide +kernel
theorem dX2_push_27 : decode cX2_push 27 = .ok (.dup, 1) := by decide +kernel
theorem dX2_push_28 : decode cX2_push 28 = .ok (.getfield 22, 3) := by decide +kernel
theorem dX2_push_31 : decode cX2_push 31 = .ok (.iconst 1, 1) := by decide +kernel
theorem dX2_push_32 : decode cX2_push 32 = .ok (.iadd, 1) := by decide +kernel
theorem dX2_push_33 : decode cX2_push 33 = .ok (.putfield 22, 3) := by decide +kernel
theorem dX2_push_36 : decode cX2_push 36 = .ok (.return_, 1) := by decide +kernel
theorem dX2_weigh_0 : decode cX2_weigh 0 = .ok (.iload_n 1, 1) := by decide +kernel
theorem dX2_weigh_1 : decode cX2_weigh 1 = .ok (.sipush 1000, 3) := by decide +kernel
theorem dX2_weigh_4 : decode cX2_weigh 4 = .ok (.if_icmp .lt 15, 3) := by decide +kernel
theorem dX2_weigh_7 : decode cX2_weigh 7 = .ok (.aload_n 0, 1) := by decide +kernel
theorem dX2_weigh_8 : decode cX2_weigh 8 = .ok (.iload_n 1, 1) := by decide +kernel
theorem dX2_weigh_9 : decode cX2_weigh 9 = .ok (.sipush 1000, 3) := by decide +kernel
theorem dX2_weigh_12 : decode cX2_weigh 12 = .ok (.isub, 1) := by decide +kernel
theorem dX2_weigh_13 : decode cX2_weigh 13 = .ok (.invokevirtual 114, 3) := by decide +kernel
theorem dX2_weigh_16 : decode cX2_weigh 16 = .ok (.goto 82, 3) := by decide +kernel
theorem dX2_weigh_19 : decode cX2_weigh 19 = .ok (.iload_n 1, 1) := by decide +kernel
theorem dX2_weigh_20 : decode cX2_weigh 20 = .ok (.sipush 500, 3) := by decide +kernel
theorem dX2_weigh_23 : decode cX2_weigh 23 = .ok (.if_icmp .lt 19, 3) := by decide +kernel
theorem dX2_weigh_26 : decode cX2_weigh 26 = .ok (.aload_n 0, 1) := by decide +kernel
theorem dX2_weigh_27 : decode cX2_weigh 27 = .ok (.aload_n 2, 1) := by decide +kernel
theorem dX2_weigh_28 : decode cX2_weigh 28 = .ok (.iload_n 1, 1) := by decide +kernel
theorem dX2_weigh_29 : decode cX2_weigh 29 = .ok (.sipush 500, 3) := by decide +kernel
theorem dX2_weigh_32 : decode cX2_weigh 32 = .ok (.isub, 1) := by decide +kernel
theorem dX2_weigh_33 : decode cX2_weigh 33 = .ok (.invokestatic 99, 3) := by decide +kernel
theorem dX2_weigh_36 : decode cX2_weigh 36 = .ok (.invokevirtual 114, 3) := by decide +kernel
theorem dX2_weigh_39 : decode cX2_weigh 39 = .ok (.goto 59, 3) := by decide +kernel
theorem dX2_weigh_42 : decode cX2_weigh 42 = .ok (.iload_n 1, 1) := by decide +kernel
theorem dX2_weigh_43 : decode cX2_weigh 43 = .ok (.bipush 33, 2) := by decide +kernel
theorem dX2_weigh_45 : decode cX2_weigh 45 = .ok (.if_icmp .ne 16, 3) := by decide +kernel
theorem dX2_weigh_48 : decode cX2_weigh 48 = .ok (.aload_n 0, 1) := by decide +kernel
theorem dX2_weigh_49 : decode cX2_weigh 49 = .ok (.iconst 1, 1) := by decide +kernel
theorem dX2_weigh_50 : decode cX2_weigh 50 = .ok (.aload_n 0, 1) := by decide +kernel
theorem dX2_weigh_51 : decode cX2_weigh 51 = .ok (.invokevirtual 107, 3) := by decide +kernel
theorem dX2_weigh_54 : decode cX2_weigh 54 = .ok (.isub, 1) := by decide +kernel
theorem dX2_weigh_55 : decode cX2_weigh 55 = .ok (.invokevirtual 114, 3) := by decide +kernel
theorem dX2_weigh_58 : decode cX2_weigh 58 = .ok (.goto 40, 3) := by decide +kernel
theorem dX2_weigh_61 : decode cX2_weigh 61 = .ok (.aload_n 0, 1) := by decide +kernel
theorem dX2_weigh_62 : decode cX2_weigh 62 = .ok (.invokevirtual 107, 3) := by decide +kernel
theorem dX2_weigh_65 : decode cX2_weigh 65 = .ok (.istore_n 3, 1) := by decide +kernel
theorem dX2_weigh_66 : decode cX2_weigh 66 = .ok (.iload_n 1, 1) := by decide +kernel
theorem dX2_weigh_67 : decode cX2_weigh 67 = .ok (.aload_n 0, 1) := by decide +kernel
theorem dX2_weigh_68 : decode cX2_weigh 68 = .ok (.invokevirtual 107, 3) := by decide +kernel
theorem dX2_weigh_71 : decode cX2_weigh 71 = .ok (.i2l, 1) := by decide +kernel
theorem dX2_weigh_72 : decode cX2_weigh 72 = .ok (.iload_n 3, 1) := by decide +kernel
theorem dX2_weigh_73 : decode cX2_weigh 73 = .ok (.i2l, 1) := by decide +kernel
theorem dX2_weigh_74 : decode cX2_weigh 74 = .ok (.invokestatic 117, 3) := by decide +kernel
theorem dX2_weigh_77 : decode cX2_weigh 77 = .ok (.lstore 4, 2) := by decide +kernel
theorem dX2_weigh_79 : decode cX2_weigh 79 = .ok (.aload_n 0, 1) := by decide +kernel
theorem dX2_weigh_80 : decode cX2_weigh 80 = .ok (.ldc2_w 121, 3) := by decide +kernel
theorem dX2_weigh_83 : decode cX2_weigh 83 = .ok (.ldc2_w 123, 3) := by decide +kernel
theorem dX2_weigh_86 : decode cX2_weigh 86 = .ok (.lload 4, 2) := by decide +kernel
theorem dX2_weigh_88 : decode cX2_weigh 88 = .ok (.invokestatic 125, 3) := by decide +kernel
theorem dX2_weigh_91 : decode cX2_weigh 91 = .ok (.invokestatic 129, 3) := by decide +kernel
theorem dX2_weigh_94 : decode cX2_weigh 94 = .ok (.l2i, 1) := by decide +kernel
theorem dX2_weigh_95 : decode cX2_weigh 95 = .ok (.invokevirtual 114, 3) := by decide +kernel
theorem dX2_weigh_98 : decode cX2_weigh 98 = .ok (.return_, 1) := by decide +kernel
theorem dX2_worth_0 : decode cX2_worth 0 = .ok (.iconst 0, 1) := by decide +kernel
theorem dX2_worth_1 : decode cX2_worth 1 = .ok (.istore_n 2, 1) := by decide +kernel
theorem dX2_worth_2 : decode cX2_worth 2 = .ok (.aload_n 0, 1) := by decide +kernel
theorem dX2_worth_3 : decode cX2_worth 3 = .ok (.iconst 0, 1) := by decide +kernel
theorem dX2_worth_4 : decode cX2_worth 4 = .ok (.putfield 22, 3) := by decide +kernel
theorem dX2_worth_7 : decode cX2_worth 7 = .ok (.iconst 0, 1) := by decide +kernel
theorem dX2_worth_8 : decode cX2_worth 8 = .ok (.istore_n 3, 1) := by decide +kernel
theorem dX2_worth_9 : decode cX2_worth 9 = .ok (.iload_n 3, 1) := by decide +kernel
theorem dX2_worth_10 : decode cX2_worth 10 = .ok (.aload_n 0, 1) := by decide +kernel
theorem dX2_worth_11 : decode cX2_worth 11 = .ok (.getfield 18, 3) := by decide +kernel
theorem dX2_worth_14 : decode cX2_worth 14 = .ok (.if_icmp .ge 78, 3) := by decide +kernel
theorem dX2_worth_17 : decode cX2_worth 17 = .ok (.aload_n 0, 1) := by decide +kernel
theorem dX2_worth_18 : decode cX2_worth 18 = .ok (.getfield 11, 3) := by decide +kernel
theorem dX2_worth_21 : decode cX2_worth 21 = .ok (.iload_n 3, 1) := by decide +kernel
theorem dX2_worth_22 : decode cX2_worth 22 = .ok (.invokestatic 99, 3) := by decide +kernel
theorem dX2_worth_25 : decode cX2_worth 25 = .ok (.istore 4, 2) := by decide +kernel
theorem dX2_worth_27 : decode cX2_worth 27 = .ok (.iload 4, 2) := by decide +kernel
theorem dX2_worth_29 : decode cX2_worth 29 = .ok (.bipush 59, 2) := by decide +kernel
theorem dX2_worth_31 : decode cX2_worth 31 = .ok (.if_icmp .ne 17, 3) := by decide +kernel
theorem dX2_worth_34 : decode cX2_worth 34 = .ok (.iload_n 2, 1) := by decide +kernel
theorem dX2_worth_35 : decode cX2_worth 35 = .ok (.ifCond .ne 8, 3) := by decide +kernel
theorem dX2_worth_38 : decode cX2_worth 38 = .ok (.aload_n 0, 1) := by decide +kernel
theorem dX2_worth_39 : decode cX2_worth 39 = .ok (.invokevirtual 107, 3) := by decide +kernel
theorem dX2_worth_42 : decode cX2_worth 42 = .ok (.ireturn, 1) := by decide +kernel
theorem dX2_worth_43 : decode cX2_worth 43 = .ok (.iconst 0, 1) := by decide +kernel
theorem dX2_worth_44 : decode cX2_worth 44 = .ok (.istore_n 2, 1) := by decide +kernel
theorem dX2_worth_45 : decode cX2_worth 45 = .ok (.goto 41, 3) := by decide +kernel
theorem dX2_worth_48 : decode cX2_worth 48 = .ok (.iload_n 2, 1) := by decide +kernel
theorem dX2_worth_49 : decode cX2_worth 49 = .ok (.ifCond .ne 26, 3) := by decide +kernel
theorem dX2_worth_52 : decode cX2_worth 52 = .ok (.iload 4, 2) := by decide +kernel
theorem dX2_worth_54 : decode cX2_worth 54 = .ok (.bipush 63, 2) := by decide +kernel
theorem dX2_worth_56 : decode cX2_worth 56 = .ok (.if_icmp .ne 19, 3) := by decide +kernel
theorem dX2_worth_59 : decode cX2_worth 59 = .ok (.aload_n 0, 1) := by decide +kernel
theorem dX2_worth_60 : decode cX2_worth 60 = .ok (.invokevirtual 107, 3) := by decide +kernel
theorem dX2_worth_63 : decode cX2_worth 63 = .ok (.ifCond .ne 7, 3) := by decide +kernel
theorem dX2_worth_66 : decode cX2_worth 66 = .ok (.iconst 1, 1) := by decide +kernel
theorem dX2_worth_67 : decode cX2_worth 67 = .ok (.goto 4, 3) := by decide +kernel
theorem dX2_worth_70 : decode cX2_worth 70 = .ok (.iconst 0, 1) := by decide +kernel
theorem dX2_worth_71 : decode cX2_worth 71 = .ok (.istore_n 2, 1) := by decide +kernel
theorem dX2_worth_72 : decode cX2_worth 72 = .ok (.goto 14, 3) := by decide +kernel
theorem dX2_worth_75 : decode cX2_worth 75 = .ok (.iload_n 2, 1) := by decide +kernel
theorem dX2_worth_76 : decode cX2_worth 76 = .ok (.ifCond .ne 10, 3) := by decide +kernel
theorem dX2_worth_79 : decode cX2_worth 79 = .ok (.aload_n 0, 1) := by decide +kernel
theorem dX2_worth_80 : decode cX2_worth 80 = .ok (.iload 4, 2) := by decide +kernel
theorem dX2_worth_82 : decode cX2_worth 82 = .ok (.aload_n 1, 1) := by decide +kernel
theorem dX2_worth_83 : decode cX2_worth 83 = .ok (.invokevirtual 110, 3) := by decide +kernel
theorem dX2_worth_86 : decode cX2_worth 86 = .ok (.iinc 3 1, 3) := by decide +kernel
theorem dX2_worth_89 : decode cX2_worth 89 = .ok (.goto (-80), 3) := by decide +kernel
theorem dX2_worth_92 : decode cX2_worth 92 = .ok (.iconst 0, 1) := by decide +kernel
theorem dX2_worth_93 : decode cX2_worth 93 = .ok (.ireturn, 1) := by decide +kernel
theorem dX9_worthBy_0 : decode cX9_worthBy 0 = .ok (.aload_n 0, 1) := by decide +kernel
theorem dX9_worthBy_1 : decode cX9_worthBy 1 = .ok (.getfield 42, 3) := by decide +kernel
theorem dX9_worthBy_4 : decode cX9_worthBy 4 = .ok (.iconst (-1), 1) := by decide +kernel
theorem dX9_worthBy_5 : decode cX9_worthBy 5 = .ok (.if_icmp .ne 29, 3) := by decide +kernel
theorem dX9_worthBy_8 : decode cX9_worthBy 8 = .ok (.iconst 2, 1) := by decide +kernel
theorem dX9_worthBy_9 : decode cX9_worthBy 9 = .ok (.iload 4, 2) := by decide +kernel
theorem dX9_worthBy_11 : decode cX9_worthBy 11 = .ok (.imul, 1) := by decide +kernel
theorem dX9_worthBy_12 : decode cX9_worthBy 12 = .ok (.aload_n 0, 1) := by decide +kernel
theorem dX9_worthBy_13 : decode cX9_worthBy 13 = .ok (.getfield 19, 3) := by decide +kernel
theorem dX9_worthBy_16 : decode cX9_worthBy 16 = .ok (.iload_n 2, 1) := by decide +kernel
theorem dX9_worthBy_17 : decode cX9_worthBy 17 = .ok (.invokevirtual 148, 3) := by decide +kernel
theorem dX9_worthBy_20 : decode cX9_worthBy 20 = .ok (.iadd, 1) := by decide +kernel
theorem dX9_worthBy_21 : decode cX9_worthBy 21 = .ok (.aload_n 1, 1) := by decide +kernel
theorem dX9_worthBy_22 : decode cX9_worthBy 22 = .ok (.iload_n 3, 1) := by decide +kernel
theorem dX9_worthBy_23 : decode cX9_worthBy 23 = .ok (.invokevirtual 142, 3) := by decide +kernel
theorem dX9_worthBy_26 : decode cX9_worthBy 26 = .ok (.iconst 2, 1) := by decide +kernel
theorem dX9_worthBy_27 : decode cX9_worthBy 27 = .ok (.idiv, 1) := by decide +kernel
theorem dX9_worthBy_28 : decode cX9_worthBy 28 = .ok (.isub, 1) := by decide +kernel
theorem dX9_worthBy_29 : decode cX9_worthBy 29 = .ok (.istore 5, 2) := by decide +kernel
theorem dX9_worthBy_31 : decode cX9_worthBy 31 = .ok (.goto 108, 3) := by decide +kernel
theorem dX9_worthBy_34 : decode cX9_worthBy 34 = .ok (.aload_n 0, 1) := by decide +kernel
theorem dX9_worthBy_35 : decode cX9_worthBy 35 = .ok (.getfield 100, 3) := by decide +kernel
theorem dX9_worthBy_38 : decode cX9_worthBy 38 = .ok (.iconst 0, 1) := by decide +kernel
theorem dX9_worthBy_39 : decode cX9_worthBy 39 = .ok (.iload 4, 2) := by decide +kernel
theorem dX9_worthBy_41 : decode cX9_worthBy 41 = .ok (.invokestatic 219, 3) := by decide +kernel
theorem dX9_worthBy_44 : decode cX9_worthBy 44 = .ok (.aload_n 0, 1) := by decide +kernel
theorem dX9_worthBy_45 : decode cX9_worthBy 45 = .ok (.getfield 100, 3) := by decide +kernel
theorem dX9_worthBy_48 : decode cX9_worthBy 48 = .ok (.iconst 1, 1) := by decide +kernel
theorem dX9_worthBy_49 : decode cX9_worthBy 49 = .ok (.aload_n 0, 1) := by decide +kernel
theorem dX9_worthBy_50 : decode cX9_worthBy 50 = .ok (.getfield 19, 3) := by decide +kernel
theorem dX9_worthBy_53 : decode cX9_worthBy 53 = .ok (.iload_n 2, 1) := by decide +kernel
theorem dX9_worthBy_54 : decode cX9_worthBy 54 = .ok (.invokevirtual 148, 3) := by decide +kernel
theorem dX9_worthBy_57 : decode cX9_worthBy 57 = .ok (.invokestatic 219, 3) := by decide +kernel
theorem dX9_worthBy_60 : decode cX9_worthBy 60 = .ok (.aload_n 0, 1) := by decide +kernel
theorem dX9_worthBy_61 : decode cX9_worthBy 61 = .ok (.getfield 100, 3) := by decide +kernel
theorem dX9_worthBy_64 : decode cX9_worthBy 64 = .ok (.iconst 2, 1) := by decide +kernel
theorem dX9_worthBy_65 : decode cX9_worthBy 65 = .ok (.aload_n 1, 1) := by decide +kernel
theorem dX9_worthBy_66 : decode cX9_worthBy 66 = .ok (.iload_n 3, 1) := by decide +kernel
theorem dX9_worthBy_67 : decode cX9_worthBy 67 = .ok (.invokevirtual 142, 3) := by decide +kernel
theorem dX9_worthBy_70 : decode cX9_worthBy 70 = .ok (.invokestatic 219, 3) := by decide +kernel
theorem dX9_worthBy_73 : decode cX9_worthBy 73 = .ok (.aload_n 0, 1) := by decide +kernel
theorem dX9_worthBy_74 : decode cX9_worthBy 74 = .ok (.getfield 100, 3) := by decide +kernel
theorem dX9_worthBy_77 : decode cX9_worthBy 77 = .ok (.iconst 3, 1) := by decide +kernel
theorem dX9_worthBy_78 : decode cX9_worthBy 78 = .ok (.aload_n 1, 1) := by decide +kernel
theorem dX9_worthBy_79 : decode cX9_worthBy 79 = .ok (.iload_n 3, 1) := by decide +kernel
theorem dX9_worthBy_80 : decode cX9_worthBy 80 = .ok (.invokevirtual 145, 3) := by decide +kernel
theorem dX9_worthBy_83 : decode cX9_worthBy 83 = .ok (.invokestatic 219, 3) := by decide +kernel
theorem dX9_worthBy_86 : decode cX9_worthBy 86 = .ok (.aload_n 0, 1) := by decide +kernel
theorem dX9_worthBy_87 : decode cX9_worthBy 87 = .ok (.getfield 100, 3) := by decide +kernel
theorem dX9_worthBy_90 : decode cX9_worthBy 90 = .ok (.iconst 4, 1) := by decide +kernel
theorem dX9_worthBy_91 : decode cX9_worthBy 91 = .ok (.aload_n 0, 1) := by decide +kernel
theorem dX9_worthBy_92 : decode cX9_worthBy 92 = .ok (.getfield 19, 3) := by decide +kernel
theorem dX9_worthBy_95 : decode cX9_worthBy 95 = .ok (.iload_n 2, 1) := by decide +kernel
theorem dX9_worthBy_96 : decode cX9_worthBy 96 = .ok (.invokevirtual 374, 3) := by decide +kernel
theorem dX9_worthBy_99 : decode cX9_worthBy 99 = .ok (.aload_n 1, 1) := by decide +kernel
theorem dX9_worthBy_100 : decode cX9_worthBy 100 = .ok (.getfield 362, 3) := by decide +kernel
theorem dX9_worthBy_103 : decode cX9_worthBy 103 = .ok (.iand, 1) := by decide +kernel
theorem dX9_worthBy_104 : decode cX9_worthBy 104 = .ok (.invokestatic 297, 3) := by decide +kernel
theorem dX9_worthBy_107 : decode cX9_worthBy 107 = .ok (.invokestatic 219, 3) := by decide +kernel
theorem dX9_worthBy_110 : decode cX9_worthBy 110 = .ok (.aload_n 0, 1) := by decide +kernel
theorem dX9_worthBy_111 : decode cX9_worthBy 111 = .ok (.getfield 100, 3) := by decide +kernel
theorem dX9_worthBy_114 : decode cX9_worthBy 114 = .ok (.iconst 5, 1) := by decide +kernel
theorem dX9_worthBy_115 : decode cX9_worthBy 115 = .ok (.aload_n 1, 1) := by decide +kernel
theorem dX9_worthBy_116 : decode cX9_worthBy 116 = .ok (.getfield 227, 3) := by decide +kernel
theorem dX9_worthBy_119 : decode cX9_worthBy 119 = .ok (.invokestatic 219, 3) := by decide +kernel
theorem dX9_worthBy_122 : decode cX9_worthBy 122 = .ok (.aload_n 0, 1) := by decide +kernel
theorem dX9_worthBy_123 : decode cX9_worthBy 123 = .ok (.aload_n 0, 1) := by decide +kernel
theorem dX9_worthBy_124 : decode cX9_worthBy 124 = .ok (.getfield 42, 3) := by decide +kernel
theorem dX9_worthBy_127 : decode cX9_worthBy 127 = .ok (.invokevirtual 399, 3) := by decide +kernel
theorem dX9_worthBy_130 : decode cX9_worthBy 130 = .ok (.aload_n 0, 1) := by decide +kernel
theorem dX9_worthBy_131 : decode cX9_worthBy 131 = .ok (.getfield 100, 3) := by decide +kernel
theorem dX9_worthBy_134 : decode cX9_worthBy 134 = .ok (.invokevirtual 412, 3) := by decide +kernel
theorem dX9_worthBy_137 : decode cX9_worthBy 137 = .ok (.istore 5, 2) := by decide +kernel
theorem dX9_worthBy_139 : decode cX9_worthBy 139 = .ok (.iconst 1, 1) := by decide +kernel
theorem dX9_worthBy_140 : decode cX9_worthBy 140 = .ok (.iload 5, 2) := by decide +kernel
theorem dX9_worthBy_142 : decode cX9_worthBy 142 = .ok (.aload_n 0, 1) := by decide +kernel
theorem dX9_worthBy_143 : decode cX9_worthBy 143 = .ok (.getfield 19, 3) := by decide +kernel
theorem dX9_worthBy_146 : decode cX9_worthBy 146 = .ok (.invokevirtual 392, 3) := by decide +kernel
theorem dX9_worthBy_149 : decode cX9_worthBy 149 = .ok (.invokestatic 415, 3) := by decide +kernel
theorem dX9_worthBy_152 : decode cX9_worthBy 152 = .ok (.invokestatic 292, 3) := by decide +kernel
theorem dX9_worthBy_155 : decode cX9_worthBy 155 = .ok (.ireturn, 1) := by decide +kernel
theorem dX0_whomOf_0 : decode cX0_whomOf 0 = .ok (.aload_n 0, 1) := by decide +kernel
theorem dX0_whomOf_1 : decode cX0_whomOf 1 = .ok (.getfield 18, 3) := by decide +kernel
theorem dX0_whomOf_4 : decode cX0_whomOf 4 = .ok (.iconst 3, 1) := by decide +kernel
theorem dX0_whomOf_5 : decode cX0_whomOf 5 = .ok (.iload_n 1, 1) := by decide +kernel
theorem dX0_whomOf_6 : decode cX0_whomOf 6 = .ok (.imul, 1) := by decide +kernel
theorem dX0_whomOf_7 : decode cX0_whomOf 7 = .ok (.iconst 1, 1) := by decide +kernel
theorem dX0_whomOf_8 : decode cX0_whomOf 8 = .ok (.iadd, 1) := by decide +kernel
theorem dX0_whomOf_9 : decode cX0_whomOf 9 = .ok (.invokestatic 74, 3) := by decide +kernel
theorem dX0_whomOf_12 : decode cX0_whomOf 12 = .ok (.ireturn, 1) := by decide +kernel
theorem dX1_allow_0 : decode cX1_allow 0 = .ok (.iconst 0, 1) := by decide +kernel
theorem dX1_allow_1 : decode cX1_allow 1 = .ok (.istore_n 3, 1) := by decide +kernel
theorem dX1_allow_2 : decode cX1_allow 2 = .ok (.iload_n 3, 1) := by decide +kernel
theorem dX1_allow_3 : decode cX1_allow 3 = .ok (.aload_n 0, 1) := by decide +kernel
theorem dX1_allow_4 : decode cX1_allow 4 = .ok (.getfield 25, 3) := by decide +kernel
theorem dX1_allow_7 : decode cX1_allow 7 = .ok (.if_icmp .ge 51, 3) := by decide +kernel
theorem dX1_allow_10 : decode cX1_allow 10 = .ok (.iload_n 3, 1) := by decide +kernel
theorem dX1_allow_11 : decode cX1_allow 11 = .ok (.bipush 10, 2) := by decide +kernel
theorem dX1_allow_13 : decode cX1_allow 13 = .ok (.if_icmp .ge 45, 3) := by decide +kernel
theorem dX1_allow_16 : decode cX1_allow 16 = .ok (.aload_n 0, 1) := by decide +kernel
theorem dX1_allow_17 : decode cX1_allow 17 = .ok (.getfield 9, 3) := by decide +kernel
theorem dX1_allow_20 : decode cX1_allow 20 = .ok (.iload_n 3, 1) := by decide +kernel
theorem dX1_allow_21 : decode cX1_allow 21 = .ok (.iaload, 1) := by decide +kernel
theorem dX1_allow_22 : decode cX1_allow 22 = .ok (.iload_n 1, 1) := by decide +kernel
theorem dX1_allow_23 : decode cX1_allow 23 = .ok (.if_icmp .ne 29, 3) := by decide +kernel
theorem dX1_allow_26 : decode cX1_allow 26 = .ok (.iload_n 2, 1) := by decide +kernel
theorem dX1_allow_27 : decode cX1_allow 27 = .ok (.aload_n 0, 1) := by decide +kernel
theorem dX1_allow_28 : decode cX1_allow 28 = .ok (.getfield 15, 3) := by decide +kernel
theorem dX1_allow_31 : decode cX1_allow 31 = .ok (.iload_n 3, 1) := by decide +kernel
theorem dX1_allow_32 : decode cX1_allow 32 = .ok (.iaload, 1) := by decide +kernel
theorem dX1_allow_33 : decode cX1_allow 33 = .ok (.if_icmp .lt 7, 3) := by decide +kernel
theorem dX1_allow_36 : decode cX1_allow 36 = .ok (.iconst 1, 1) := by decide +kernel
theorem dX1_allow_37 : decode cX1_allow 37 = .ok (.goto 4, 3) := by decide +kernel
theorem dX1_allow_40 : decode cX1_allow 40 = .ok (.iconst 0, 1) := by decide +kernel
theorem dX1_allow_41 : decode cX1_allow 41 = .ok (.aload_n 0, 1) := by decide +kernel
theorem dX1_allow_42 : decode cX1_allow 42 = .ok (.getfield 18, 3) := by decide +kernel
theorem dX1_allow_45 : decode cX1_allow 45 = .ok (.iload_n 3, 1) := by decide +kernel
theorem dX1_allow_46 : decode cX1_allow 46 = .ok (.baload, 1) := by decide +kernel
theorem dX1_allow_47 : decode cX1_allow 47 = .ok (.if_icmp .eq 5, 3) := by decide +kernel
theorem dX1_allow_50 : decode cX1_allow 50 = .ok (.iconst 0, 1) := by decide +kernel
theorem dX1_allow_51 : decode cX1_allow 51 = .ok (.ireturn, 1) := by decide +kernel
theorem dX1_allow_52 : decode cX1_allow 52 = .ok (.iinc 3 1, 3) := by decide +kernel
theorem dX1_allow_55 : decode cX1_allow 55 = .ok (.goto (-53), 3) := by decide +kernel
theorem dX1_allow_58 : decode cX1_allow 58 = .ok (.iconst 1, 1) := by decide +kernel
theorem dX1_allow_59 : decode cX1_allow 59 = .ok (.ireturn, 1) := by decide +kernel
theorem dX9_fit_0 : decode cX9_fit 0 = .ok (.iconst 0, 1) := by decide +kernel
theorem dX9_fit_1 : decode cX9_fit 1 = .ok (.istore_n 2, 1) := by decide +kernel
theorem dX9_fit_2 : decode cX9_fit 2 = .ok (.iconst 1, 1) := by decide +kernel
theorem dX9_fit_3 : decode cX9_fit 3 = .ok (.istore_n 3, 1) := by decide +kernel
theorem dX9_fit_4 : decode cX9_fit 4 = .ok (.iload_n 3, 1) := by decide +kernel
theorem dX9_fit_5 : decode cX9_fit 5 = .ok (.bipush 9, 2) := by decide +kernel
theorem dX9_fit_7 : decode cX9_fit 7 = .ok (.if_icmp .gt 83, 3) := by decide +kernel
theorem dX9_fit_10 : decode cX9_fit 10 = .ok (.aload_n 0, 1) := by decide +kernel
theorem dX9_fit_11 : decode cX9_fit 11 = .ok (.aload_n 0, 1) := by decide +kernel
theorem dX9_fit_12 : decode cX9_fit 12 = .ok (.getfield 54, 3) := by decide +kernel
theorem dX9_fit_15 : decode cX9_fit 15 = .ok (.aload_n 0, 1) := by decide +kernel
theorem dX9_fit_16 : decode cX9_fit 16 = .ok (.getfield 19, 3) := by decide +kernel
theorem dX9_fit_19 : decode cX9_fit 19 = .ok (.iload_n 1, 1) := by decide +kernel
theorem dX9_fit_20 : decode cX9_fit 20 = .ok (.invokevirtual 157, 3) := by decide +kernel
theorem dX9_fit_23 : decode cX9_fit 23 = .ok (.aload_n 0, 1) := by decide +kernel
theorem dX9_fit_24 : decode cX9_fit 24 = .ok (.getfield 19, 3) := by decide +kernel
theorem dX9_fit_27 : decode cX9_fit 27 = .ok (.iload_n 1, 1) := by decide +kernel
theorem dX9_fit_28 : decode cX9_fit 28 = .ok (.invokevirtual 160, 3) := by decide +kernel
theorem dX9_fit_31 : decode cX9_fit 31 = .ok (.iload_n 3, 1) := by decide +kernel
theorem dX9_fit_32 : decode cX9_fit 32 = .ok (.invokevirtual 169, 3) := by decide +kernel
theorem dX9_fit_35 : decode cX9_fit 35 = .ok (.istore 4, 2) := by decide +kernel
theorem dX9_fit_37 : decode cX9_fit 37 = .ok (.aload_n 0, 1) := by decide +kernel
theorem dX9_fit_38 : decode cX9_fit 38 = .ok (.getfield 89, 3) := by decide +kernel
theorem dX9_fit_41 : decode cX9_fit 41 = .ok (.iload_n 1, 1) := by decide +kernel
theorem dX9_fit_42 : decode cX9_fit 42 = .ok (.iload 4, 2) := by decide +kernel
theorem dX9_fit_44 : decode cX9_fit 44 = .ok (.invokevirtual 435, 3) := by decide +kernel
theorem dX9_fit_47 : decode cX9_fit 47 = .ok (.istore 5, 2) := by decide +kernel
theorem dX9_fit_49 : decode cX9_fit 49 = .ok (.aload_n 0, 1) := by decide +kernel
theorem dX9_fit_50 : decode cX9_fit 50 = .ok (.getfield 89, 3) := by decide +kernel
theorem dX9_fit_53 : decode cX9_fit 53 = .ok (.getfield 330, 3) := by decide +kernel
theorem dX9_fit_56 : decode cX9_fit 56 = .ok (.iload_n 3, 1) := by decide +kernel
theorem dX9_fit_57 : decode cX9_fit 57 = .ok (.iload 5, 2) := by decide +kernel
theorem dX9_fit_59 : decode cX9_fit 59 = .ok (.ifCond .eq 8, 3) := by decide +kernel
theorem dX9_fit_62 : decode cX9_fit 62 = .ok (.iload 4, 2) := by decide +kernel
theorem dX9_fit_64 : decode cX9_fit 64 = .ok (.goto 4, 3) := by decide +kernel
theorem dX9_fit_67 : decode cX9_fit 67 = .ok (.iconst 0, 1) := by decide +kernel
theorem dX9_fit_68 : decode cX9_fit 68 = .ok (.invokestatic 219, 3) := by decide +kernel
theorem dX9_fit_71 : decode cX9_fit 71 = .ok (.iload_n 2, 1) := by decide +kernel
theorem dX9_fit_72 : decode cX9_fit 72 = .ok (.iload 5, 2) := by decide +kernel
theorem dX9_fit_74 : decode cX9_fit 74 = .ok (.ifCond .eq 7, 3) := by decide +kernel
theorem dX9_fit_77 : decode cX9_fit 77 = .ok (.iconst 1, 1) := by decide +kernel
theorem dX9_fit_78 : decode cX9_fit 78 = .ok (.goto 4, 3) := by decide +kernel
theorem dX9_fit_81 : decode cX9_fit 81 = .ok (.iconst 0, 1) := by decide +kernel
theorem dX9_fit_82 : decode cX9_fit 82 = .ok (.iadd, 1) := by decide +kernel
theorem dX9_fit_83 : decode cX9_fit 83 = .ok (.istore_n 2, 1) := by decide +kernel
theorem dX9_fit_84 : decode cX9_fit 84 = .ok (.iinc 3 1, 3) := by decide +kernel
theorem dX9_fit_87 : decode cX9_fit 87 = .ok (.goto (-83), 3) := by decide +kernel
theorem dX9_fit_90 : decode cX9_fit 90 = .ok (.iload_n 2, 1) := by decide +kernel
theorem dX9_fit_91 : decode cX9_fit 91 = .ok (.ireturn, 1) := by decide +kernel
theorem dX9_isWrong_0 : decode cX9_isWrong 0 = .ok (.iload_n 1, 1) := by decide +kernel
theorem dX9_isWrong_1 : decode cX9_isWrong 1 = .ok (.ifCond .lt 18, 3) := by decide +kernel
theorem dX9_isWrong_4 : decode cX9_isWrong 4 = .ok (.iload_n 1, 1) := by decide +kernel
theorem dX9_isWrong_5 : decode cX9_isWrong 5 = .ok (.aload_n 0, 1) := by decide +kernel
theorem dX9_isWrong_6 : decode cX9_isWrong 6 = .ok (.getfield 19, 3) := by decide +kernel
theorem dX9_isWrong_9 : decode cX9_isWrong 9 = .ok (.getfield 359, 3) := by decide +kernel
theorem dX9_isWrong_12 : decode cX9_isWrong 12 = .ok (.if_icmp .ge 7, 3) := by decide +kernel
theorem dX9_isWrong_15 : decode cX9_isWrong 15 = .ok (.iconst 1, 1) := by decide +kernel
theorem dX9_isWrong_16 : decode cX9_isWrong 16 = .ok (.goto 4, 3) := by decide +kernel
theorem dX9_isWrong_19 : decode cX9_isWrong 19 = .ok (.iconst 0, 1) := by decide +kernel
theorem dX9_isWrong_20 : decode cX9_isWrong 20 = .ok (.ireturn, 1) := by decide +kernel
theorem dX1_worthsFrom_0 : decode cX1_worthsFrom 0 = .ok (.iconst 0, 1) := by decide +kernel
theorem dX1_worthsFrom_1 : decode cX1_worthsFrom 1 = .ok (.istore_n 2, 1) := by decide +kernel
theorem dX1_worthsFrom_2 : decode cX1_worthsFrom 2 = .ok (.iconst 1, 1) := by decide +kernel
theorem dX1_worthsFrom_3 : decode cX1_worthsFrom 3 = .ok (.istore_n 3, 1) := by decide +kernel
theorem dX1_worthsFrom_4 : decode cX1_worthsFrom 4 = .ok (.iload_n 3, 1) := by decide +kernel
theorem dX1_worthsFrom_5 : decode cX1_worthsFrom 5 = .ok (.bipush 9, 2) := by decide +kernel
theorem dX1_worthsFrom_7 : decode cX1_worthsFrom 7 = .ok (.if_icmp .gt 29, 3) := by decide +kernel
theorem dX1_worthsFrom_10 : decode cX1_worthsFrom 10 = .ok (.iload_n 2, 1) := by decide +kernel
theorem dX1_worthsFrom_11 : decode cX1_worthsFrom 11 = .ok (.aload_n 0, 1) := by decide +kernel
theorem dX1_worthsFrom_12 : decode cX1_worthsFrom 12 = .ok (.getfield 22, 3) := by decide +kernel
theorem dX1_worthsFrom_15 : decode cX1_worthsFrom 15 = .ok (.iload_n 3, 1) := by decide +kernel
theorem dX1_worthsFrom_16 : decode cX1_worthsFrom 16 = .ok (.invokestatic 29, 3) := by decide +kernel
theorem dX1_worthsFrom_19 : decode cX1_worthsFrom 19 = .ok (.iload_n 1, 1) := by decide +kernel
theorem dX1_worthsFrom_20 : decode cX1_worthsFrom 20 = .ok (.if_icmp .lt 7, 3) := by decide +kernel
theorem dX1_worthsFrom_23 : decode cX1_worthsFrom 23 = .ok (.iconst 1, 1) := by decide +kernel
theorem dX1_worthsFrom_24 : decode cX1_worthsFrom 24 = .ok (.goto 4, 3) := by decide +kernel
theorem dX1_worthsFrom_27 : decode cX1_worthsFrom 27 = .ok (.iconst 0, 1) := by decide +kernel
theorem dX1_worthsFrom_28 : decode cX1_worthsFrom 28 = .ok (.iadd, 1) := by decide +kernel
theorem dX1_worthsFrom_29 : decode cX1_worthsFrom 29 = .ok (.istore_n 2, 1) := by decide +kernel
theorem dX1_worthsFrom_30 : decode cX1_worthsFrom 30 = .ok (.iinc 3 1, 3) := by decide +kernel
theorem dX1_worthsFrom_33 : decode cX1_worthsFrom 33 = .ok (.goto (-29), 3) := by decide +kernel
theorem dX1_worthsFrom_36 : decode cX1_worthsFrom 36 = .ok (.iload_n 2, 1) := by decide +kernel
theorem dX1_worthsFrom_37 : decode cX1_worthsFrom 37 = .ok (.ireturn, 1) := by decide +kernel
