theorem dX6_oneStep_0 : decode cX6_oneStep 0 = .ok (.aload_n 1, 1) := by decide +kernel
theorem dX6_oneStep_1 : decode cX6_oneStep 1 = .ok (.invokevirtual 32, 3) := by decide +kernel
theorem dX6_oneStep_4 : decode cX6_oneStep 4 = .ok (.istore_n 2, 1) := by decide +kernel
theorem dX6_oneStep_5 : decode cX6_oneStep 5 = .ok (.iconst 0, 1) := by decide +kernel
theorem dX6_oneStep_6 : decode cX6_oneStep 6 = .ok (.istore_n 3, 1) := by decide +kernel
theorem dX6_oneStep_7 : decode cX6_oneStep 7 = .ok (.iload_n 3, 1) := by decide +kernel
theorem dX6_oneStep_8 : decode cX6_oneStep 8 = .ok (.getstatic 44, 3) := by decide +kernel
theorem dX6_oneStep_11 : decode cX6_oneStep 11 = .ok (.arraylength, 1) := by decide +kernel
theorem dX6_oneStep_12 : decode cX6_oneStep 12 = .ok (.if_icmp .ge 82, 3) := by decide +kernel
theorem dX6_oneStep_15 : decode cX6_oneStep 15 = .ok (.getstatic 44, 3) := by decide +kernel
theorem dX6_oneStep_18 : decode cX6_oneStep 18 = .ok (.iload_n 3, 1) := by decide +kernel
theorem dX6_oneStep_19 : decode cX6_oneStep 19 = .ok (.invokestatic 19, 3) := by decide +kernel
theorem dX6_oneStep_22 : decode cX6_oneStep 22 = .ok (.iload_n 2, 1) := by decide +kernel
theorem dX6_oneStep_23 : decode cX6_oneStep 23 = .ok (.if_icmp .ne 65, 3) := by decide +kernel
theorem dX6_oneStep_26 : decode cX6_oneStep 26 = .ok (.aload_n 1, 1) := by decide +kernel
theorem dX6_oneStep_27 : decode cX6_oneStep 27 = .ok (.dup, 1) := by decide +kernel
theorem dX6_oneStep_28 : decode cX6_oneStep 28 = .ok (.getfield 47, 3) := by decide +kernel
theorem dX6_oneStep_31 : decode cX6_oneStep 31 = .ok (.iconst 1, 1) := by decide +kernel
theorem dX6_oneStep_32 : decode cX6_oneStep 32 = .ok (.iadd, 1) := by decide +kernel
theorem dX6_oneStep_33 : decode cX6_oneStep 33 = .ok (.putfield 47, 3) := by decide +kernel
theorem dX6_oneStep_36 : decode cX6_oneStep 36 = .ok (.aload_n 0, 1) := by decide +kernel
theorem dX6_oneStep_37 : decode cX6_oneStep 37 = .ok (.getfield 9, 3) := by decide +kernel
theorem dX6_oneStep_40 : decode cX6_oneStep 40 = .ok (.iconst 3, 1) := by decide +kernel
theorem dX6_oneStep_41 : decode cX6_oneStep 41 = .ok (.aload_n 0, 1) := by decide +kernel
theorem dX6_oneStep_42 : decode cX6_oneStep 42 = .ok (.getfield 15, 3) := by decide +kernel
theorem dX6_oneStep_45 : decode cX6_oneStep 45 = .ok (.imul, 1) := by decide +kernel
theorem dX6_oneStep_46 : decode cX6_oneStep 46 = .ok (.iload_n 3, 1) := by decide +kernel
theorem dX6_oneStep_47 : decode cX6_oneStep 47 = .ok (.invokestatic 50, 3) := by decide +kernel
theorem dX6_oneStep_50 : decode cX6_oneStep 50 = .ok (.aload_n 0, 1) := by decide +kernel
theorem dX6_oneStep_51 : decode cX6_oneStep 51 = .ok (.aload_n 1, 1) := by decide +kernel
theorem dX6_oneStep_52 : decode cX6_oneStep 52 = .ok (.iconst 1, 1) := by decide +kernel
theorem dX6_oneStep_53 : decode cX6_oneStep 53 = .ok (.getstatic 54, 3) := by decide +kernel
theorem dX6_oneStep_56 : decode cX6_oneStep 56 = .ok (.iload_n 3, 1) := by decide +kernel
theorem dX6_oneStep_57 : decode cX6_oneStep 57 = .ok (.invokestatic 19, 3) := by decide +kernel
theorem dX6_oneStep_60 : decode cX6_oneStep 60 = .ok (.invokevirtual 57, 3) := by decide +kernel
theorem dX6_oneStep_63 : decode cX6_oneStep 63 = .ok (.ifCond .eq 23, 3) := by decide +kernel
theorem dX6_oneStep_66 : decode cX6_oneStep 66 = .ok (.aload_n 0, 1) := by decide +kernel
theorem dX6_oneStep_67 : decode cX6_oneStep 67 = .ok (.aload_n 1, 1) := by decide +kernel
theorem dX6_oneStep_68 : decode cX6_oneStep 68 = .ok (.iconst 2, 1) := by decide +kernel
theorem dX6_oneStep_69 : decode cX6_oneStep 69 = .ok (.getstatic 54, 3) := by decide +kernel
theorem dX6_oneStep_72 : decode cX6_oneStep 72 = .ok (.iload_n 3, 1) := by decide +kernel
theorem dX6_oneStep_73 : decode cX6_oneStep 73 = .ok (.invokestatic 19, 3) := by decide +kernel
theorem dX6_oneStep_76 : decode cX6_oneStep 76 = .ok (.invokevirtual 57, 3) := by decide +kernel
theorem dX6_oneStep_79 : decode cX6_oneStep 79 = .ok (.ifCond .eq 7, 3) := by decide +kernel
theorem dX6_oneStep_82 : decode cX6_oneStep 82 = .ok (.iconst 1, 1) := by decide +kernel
theorem dX6_oneStep_83 : decode cX6_oneStep 83 = .ok (.goto 4, 3) := by decide +kernel
theorem dX6_oneStep_86 : decode cX6_oneStep 86 = .ok (.iconst 0, 1) := by decide +kernel
theorem dX6_oneStep_87 : decode cX6_oneStep 87 = .ok (.ireturn, 1) := by decide +kernel
theorem dX6_oneStep_88 : decode cX6_oneStep 88 = .ok (.iinc 3 1, 3) := by decide +kernel
theorem dX6_oneStep_91 : decode cX6_oneStep 91 = .ok (.goto (-84), 3) := by decide +kernel
theorem dX6_oneStep_94 : decode cX6_oneStep 94 = .ok (.aload_n 1, 1) := by decide +kernel
theorem dX6_oneStep_95 : decode cX6_oneStep 95 = .ok (.invokevirtual 40, 3) := by decide +kernel
theorem dX6_oneStep_98 : decode cX6_oneStep 98 = .ok (.ireturn, 1) := by decide +kernel
theorem dX6_read_0 : decode cX6_read 0 = .ok (.aload_n 0, 1) := by decide +kernel
theorem dX6_read_1 : decode cX6_read 1 = .ok (.iconst 0, 1) := by decide +kernel
theorem dX6_read_2 : decode cX6_read 2 = .ok (.putfield 15, 3) := by decide +kernel
theorem dX6_read_5 : decode cX6_read 5 = .ok (.aload_n 1, 1) := by decide +kernel
theorem dX6_read_6 : decode cX6_read 6 = .ok (.invokevirtual 23, 3) := by decide +kernel
theorem dX6_read_9 : decode cX6_read 9 = .ok (.iconst 0, 1) := by decide +kernel
theorem dX6_read_10 : decode cX6_read 10 = .ok (.istore_n 2, 1) := by decide +kernel
theorem dX6_read_11 : decode cX6_read 11 = .ok (.iload_n 2, 1) := by decide +kernel
theorem dX6_read_12 : decode cX6_read 12 = .ok (.bipush 16, 2) := by decide +kernel
theorem dX6_read_14 : decode cX6_read 14 = .ok (.if_icmp .ge 61, 3) := by decide +kernel
theorem dX6_read_17 : decode cX6_read 17 = .ok (.aload_n 0, 1) := by decide +kernel
theorem dX6_read_18 : decode cX6_read 18 = .ok (.aload_n 1, 1) := by decide +kernel
theorem dX6_read_19 : decode cX6_read 19 = .ok (.invokevirtual 28, 3) := by decide +kernel
theorem dX6_read_22 : decode cX6_read 22 = .ok (.ifCond .ne 5, 3) := by decide +kernel
theorem dX6_read_25 : decode cX6_read 25 = .ok (.iconst 0, 1) := by decide +kernel
theorem dX6_read_26 : decode cX6_read 26 = .ok (.ireturn, 1) := by decide +kernel
theorem dX6_read_27 : decode cX6_read 27 = .ok (.aload_n 0, 1) := by decide +kernel
theorem dX6_read_28 : decode cX6_read 28 = .ok (.dup, 1) := by decide +kernel
theorem dX6_read_29 : decode cX6_read 29 = .ok (.getfield 15, 3) := by decide +kernel
theorem dX6_read_32 : decode cX6_read 32 = .ok (.iconst 1, 1) := by decide +kernel
theorem dX6_read_33 : decode cX6_read 33 = .ok (.iadd, 1) := by decide +kernel
theorem dX6_read_34 : decode cX6_read 34 = .ok (.putfield 15, 3) := by decide +kernel
theorem dX6_read_37 : decode cX6_read 37 = .ok (.aload_n 1, 1) := by decide +kernel
theorem dX6_read_38 : decode cX6_read 38 = .ok (.invokevirtual 32, 3) := by decide +kernel
theorem dX6_read_41 : decode cX6_read 41 = .ok (.ifCond .ne 5, 3) := by decide +kernel
theorem dX6_read_44 : decode cX6_read 44 = .ok (.iconst 1, 1) := by decide +kernel
theorem dX6_read_45 : decode cX6_read 45 = .ok (.ireturn, 1) := by decide +kernel
theorem dX6_read_46 : decode cX6_read 46 = .ok (.aload_n 0, 1) := by decide +kernel
theorem dX6_read_47 : decode cX6_read 47 = .ok (.getfield 15, 3) := by decide +kernel
theorem dX6_read_50 : decode cX6_read 50 = .ok (.bipush 16, 2) := by decide +kernel
theorem dX6_read_52 : decode cX6_read 52 = .ok (.if_icmp .eq 12, 3) := by decide +kernel
theorem dX6_read_55 : decode cX6_read 55 = .ok (.aload_n 1, 1) := by decide +kernel
theorem dX6_read_56 : decode cX6_read 56 = .ok (.bipush 59, 2) := by decide +kernel
theorem dX6_read_58 : decode cX6_read 58 = .ok (.invokevirtual 36, 3) := by decide +kernel
theorem dX6_read_61 : decode cX6_read 61 = .ok (.ifCond .ne 8, 3) := by decide +kernel
theorem dX6_read_64 : decode cX6_read 64 = .ok (.aload_n 1, 1) := by decide +kernel
theorem dX6_read_65 : decode cX6_read 65 = .ok (.invokevirtual 40, 3) := by decide +kernel
theorem dX6_read_68 : decode cX6_read 68 = .ok (.ireturn, 1) := by decide +kernel
theorem dX6_read_69 : decode cX6_read 69 = .ok (.iinc 2 1, 3) := by decide +kernel
theorem dX6_read_72 : decode cX6_read 72 = .ok (.goto (-61), 3) := by decide +kernel
theorem dX6_read_75 : decode cX6_read 75 = .ok (.aload_n 1, 1) := by decide +kernel
theorem dX6_read_76 : decode cX6_read 76 = .ok (.invokevirtual 40, 3) := by decide +kernel
theorem dX6_read_79 : decode cX6_read 79 = .ok (.ireturn, 1) := by decide +kernel
theorem dX9_readAs_0 : decode cX9_readAs 0 = .ok (.iload_n 1, 1) := by decide +kernel
theorem dX9_readAs_1 : decode cX9_readAs 1 = .ok (.lookupswitch 55 #[(0, 27), (1, 39)], 27) := by decide +kernel
theorem dX9_readAs_28 : decode cX9_readAs 28 = .ok (.aload_n 0, 1) := by decide +kernel
theorem dX9_readAs_29 : decode cX9_readAs 29 = .ok (.getfield 23, 3) := by decide +kernel
theorem dX9_readAs_32 : decode cX9_readAs 32 = .ok (.aload_n 0, 1) := by decide +kernel
theorem dX9_readAs_33 : decode cX9_readAs 33 = .ok (.getfield 10, 3) := by decide +kernel
theorem dX9_readAs_36 : decode cX9_readAs 36 = .ok (.invokevirtual 396, 3) := by decide +kernel
theorem dX9_readAs_39 : decode cX9_readAs 39 = .ok (.ireturn, 1) := by decide +kernel
theorem dX9_readAs_40 : decode cX9_readAs 40 = .ok (.aload_n 0, 1) := by decide +kernel
theorem dX9_readAs_41 : decode cX9_readAs 41 = .ok (.aload_n 0, 1) := by decide +kernel
theorem dX9_readAs_42 : decode cX9_readAs 42 = .ok (.getfield 38, 3) := by decide +kernel
theorem dX9_readAs_45 : decode cX9_readAs 45 = .ok (.invokevirtual 399, 3) := by decide +kernel
theorem dX9_readAs_48 : decode cX9_readAs 48 = .ok (.aload_n 0, 1) := by decide +kernel
theorem dX9_readAs_49 : decode cX9_readAs 49 = .ok (.getfield 10, 3) := by decide +kernel
theorem dX9_readAs_52 : decode cX9_readAs 52 = .ok (.invokevirtual 403, 3) := by decide +kernel
theorem dX9_readAs_55 : decode cX9_readAs 55 = .ok (.ireturn, 1) := by decide +kernel
theorem dX9_readAs_56 : decode cX9_readAs 56 = .ok (.aload_n 0, 1) := by decide +kernel
theorem dX9_readAs_57 : decode cX9_readAs 57 = .ok (.aload_n 0, 1) := by decide +kernel
theorem dX9_readAs_58 : decode cX9_readAs 58 = .ok (.getfield 45, 3) := by decide +kernel
theorem dX9_readAs_61 : decode cX9_readAs 61 = .ok (.invokevirtual 250, 3) := by decide +kernel
theorem dX9_readAs_64 : decode cX9_readAs 64 = .ok (.aload_n 0, 1) := by decide +kernel
theorem dX9_readAs_65 : decode cX9_readAs 65 = .ok (.getfield 10, 3) := by decide +kernel
theorem dX9_readAs_68 : decode cX9_readAs 68 = .ok (.invokevirtual 404, 3) := by decide +kernel
theorem dX9_readAs_71 : decode cX9_readAs 71 = .ok (.ireturn, 1) := by decide +kernel
theorem dX9_fault_0 : decode cX9_fault 0 = .ok (.iload_n 1, 1) := by decide +kernel
theorem dX9_fault_1 : decode cX9_fault 1 = .ok (.ifCond .lt 8, 3) := by decide +kernel
theorem dX9_fault_4 : decode cX9_fault 4 = .ok (.iload_n 1, 1) := by decide +kernel
theorem dX9_fault_5 : decode cX9_fault 5 = .ok (.iconst 2, 1) := by decide +kernel
theorem dX9_fault_6 : decode cX9_fault 6 = .ok (.if_icmp .le 6, 3) := by decide +kernel
theorem dX9_fault_9 : decode cX9_fault 9 = .ok (.bipush (-2), 2) := by decide +kernel
theorem dX9_fault_11 : decode cX9_fault 11 = .ok (.ireturn, 1) := by decide +kernel
theorem dX9_fault_12 : decode cX9_fault 12 = .ok (.aload_n 0, 1) := by decide +kernel
theorem dX9_fault_13 : decode cX9_fault 13 = .ok (.iload_n 1, 1) := by decide +kernel
theorem dX9_fault_14 : decode cX9_fault 14 = .ok (.invokevirtual 121, 3) := by decide +kernel
theorem dX9_fault_17 : decode cX9_fault 17 = .ok (.ifCond .eq 7, 3) := by decide +kernel
theorem dX9_fault_20 : decode cX9_fault 20 = .ok (.iconst (-1), 1) := by decide +kernel
theorem dX9_fault_21 : decode cX9_fault 21 = .ok (.goto 10, 3) := by decide +kernel
theorem dX9_fault_24 : decode cX9_fault 24 = .ok (.aload_n 0, 1) := by decide +kernel
theorem dX9_fault_25 : decode cX9_fault 25 = .ok (.getfield 10, 3) := by decide +kernel
theorem dX9_fault_28 : decode cX9_fault 28 = .ok (.getfield 125, 3) := by decide +kernel
theorem dX9_fault_31 : decode cX9_fault 31 = .ok (.ireturn, 1) := by decide +kernel
theorem dX8_add_0 : decode cX8_add 0 = .ok (.bipush 24, 2) := by decide +kernel
theorem dX8_add_2 : decode cX8_add 2 = .ok (.istore_n 2, 1) := by decide +kernel
theorem dX8_add_3 : decode cX8_add 3 = .ok (.iload_n 2, 1) := by decide +kernel
theorem dX8_add_4 : decode cX8_add 4 = .ok (.ifCond .lt 53, 3) := by decide +kernel
theorem dX8_add_7 : decode cX8_add 7 = .ok (.iload_n 1, 1) := by decide +kernel
theorem dX8_add_8 : decode cX8_add 8 = .ok (.iload_n 2, 1) := by decide +kernel
theorem dX8_add_9 : decode cX8_add 9 = .ok (.ishr, 1) := by decide +kernel
theorem dX8_add_10 : decode cX8_add 10 = .ok (.sipush 255, 3) := by decide +kernel
theorem dX8_add_13 : decode cX8_add 13 = .ok (.iand, 1) := by decide +kernel
theorem dX8_add_14 : decode cX8_add 14 = .ok (.istore_n 3, 1) := by decide +kernel
theorem dX8_add_15 : decode cX8_add 15 = .ok (.iload_n 3, 1) := by decide +kernel
theorem dX8_add_16 : decode cX8_add 16 = .ok (.ifCond .eq 35, 3) := by decide +kernel
theorem dX8_add_19 : decode cX8_add 19 = .ok (.aload_n 0, 1) := by decide +kernel
theorem dX8_add_20 : decode cX8_add 20 = .ok (.getfield 15, 3) := by decide +kernel
theorem dX8_add_23 : decode cX8_add 23 = .ok (.sipush 240, 3) := by decide +kernel
theorem dX8_add_26 : decode cX8_add 26 = .ok (.if_icmp .ge 25, 3) := by decide +kernel
theorem dX8_add_29 : decode cX8_add 29 = .ok (.aload_n 0, 1) := by decide +kernel
theorem dX8_add_30 : decode cX8_add 30 = .ok (.getfield 11, 3) := by decide +kernel
theorem dX8_add_33 : decode cX8_add 33 = .ok (.aload_n 0, 1) := by decide +kernel
theorem dX8_add_34 : decode cX8_add 34 = .ok (.getfield 15, 3) := by decide +kernel
theorem dX8_add_37 : decode cX8_add 37 = .ok (.iload_n 3, 1) := by decide +kernel
theorem dX8_add_38 : decode cX8_add 38 = .ok (.invokestatic 25, 3) := by decide +kernel
theorem dX8_add_41 : decode cX8_add 41 = .ok (.aload_n 0, 1) := by decide +kernel
theorem dX8_add_42 : decode cX8_add 42 = .ok (.dup, 1) := by decide +kernel
theorem dX8_add_43 : decode cX8_add 43 = .ok (.getfield 15, 3) := by decide +kernel
theorem dX8_add_46 : decode cX8_add 46 = .ok (.iconst 1, 1) := by decide +kernel
theorem dX8_add_47 : decode cX8_add 47 = .ok (.iadd, 1) := by decide +kernel
theorem dX8_add_48 : decode cX8_add 48 = .ok (.putfield 15, 3) := by decide +kernel
theorem dX8_add_51 : decode cX8_add 51 = .ok (.iinc 2 (-8), 3) := by decide +kernel
theorem dX8_add_54 : decode cX8_add 54 = .ok (.goto (-51), 3) := by decide +kernel
theorem dX8_add_57 : decode cX8_add 57 = .ok (.return_, 1) := by decide +kernel
theorem dX8_bytesOf_0 : decode cX8_bytesOf 0 = .ok (.iconst 0, 1) := by decide +kernel
theorem dX8_bytesOf_1 : decode cX8_bytesOf 1 = .ok (.istore_n 1, 1) := by decide +kernel
theorem dX8_bytesOf_2 : decode cX8_bytesOf 2 = .ok (.bipush 24, 2) := by decide +kernel
theorem dX8_bytesOf_4 : decode cX8_bytesOf 4 = .ok (.istore_n 2, 1) := by decide +kernel
theorem dX8_bytesOf_5 : decode cX8_bytesOf 5 = .ok (.iload_n 2, 1) := by decide +kernel
theorem dX8_bytesOf_6 : decode cX8_bytesOf 6 = .ok (.ifCond .lt 27, 3) := by decide +kernel
theorem dX8_bytesOf_9 : decode cX8_bytesOf 9 = .ok (.iload_n 1, 1) := by decide +kernel
theorem dX8_bytesOf_10 : decode cX8_bytesOf 10 = .ok (.iload_n 0, 1) := by decide +kernel
theorem dX8_bytesOf_11 : decode cX8_bytesOf 11 = .ok (.iload_n 2, 1) := by decide +kernel
theorem dX8_bytesOf_12 : decode cX8_bytesOf 12 = .ok (.ishr, 1) := by decide +kernel
theorem dX8_bytesOf_13 : decode cX8_bytesOf 13 = .ok (.sipush 255, 3) := by decide +kernel
theorem dX8_bytesOf_16 : decode cX8_bytesOf 16 = .ok (.iand, 1) := by decide +kernel
theorem dX8_bytesOf_17 : decode cX8_bytesOf 17 = .ok (.ifCond .ne 7, 3) := by decide +kernel
theorem dX8_bytesOf_20 : decode cX8_bytesOf 20 = .ok (.iconst 0, 1) := by decide +kernel
theorem dX8_bytesOf_21 : decode cX8_bytesOf 21 = .ok (.goto 4, 3) := by decide +kernel
theorem dX8_bytesOf_24 : decode cX8_bytesOf 24 = .ok (.iconst 1, 1) := by decide +kernel
theorem dX8_bytesOf_25 : decode cX8_bytesOf 25 = .ok (.iadd, 1) := by decide +kernel
theorem dX8_bytesOf_26 : decode cX8_bytesOf 26 = .ok (.istore_n 1, 1) := by decide +kernel
theorem dX8_bytesOf_27 : decode cX8_bytesOf 27 = .ok (.iinc 2 (-8), 3) := by decide +kernel
theorem dX8_bytesOf_30 : decode cX8_bytesOf 30 = .ok (.goto (-25), 3) := by decide +kernel
theorem dX8_bytesOf_33 : decode cX8_bytesOf 33 = .ok (.iload_n 1, 1) := by decide +kernel
theorem dX8_bytesOf_34 : decode cX8_bytesOf 34 = .ok (.ireturn, 1) := by decide +kernel
theorem dX9_feed_0 : decode cX9_feed 0 = .ok (.iload_n 1, 1) := by decide +kernel
theorem dX9_feed_1 : decode cX9_feed 1 = .ok (.invokestatic 110, 3) := by decide +kernel
theorem dX9_feed_4 : decode cX9_feed 4 = .ok (.iload_n 2, 1) := by decide +kernel
theorem dX9_feed_5 : decode cX9_feed 5 = .ok (.invokestatic 110, 3) := by decide +kernel
theorem dX9_feed_8 : decode cX9_feed 8 = .ok (.iadd, 1) := by decide +kernel
theorem dX9_feed_9 : decode cX9_feed 9 = .ok (.iload_n 3, 1) := by decide +kernel
theorem dX9_feed_10 : decode cX9_feed 10 = .ok (.invokestatic 110, 3) := by decide +kernel
theorem dX9_feed_13 : decode cX9_feed 13 = .ok (.iadd, 1) := by decide +kernel
theorem dX9_feed_14 : decode cX9_feed 14 = .ok (.iload 4, 2) := by decide +kernel
theorem dX9_feed_16 : decode cX9_feed 16 = .ok (.invokestatic 110, 3) := by decide +kernel
theorem dX9_feed_19 : decode cX9_feed 19 = .ok (.iadd, 1) := by decide +kernel
theorem dX9_feed_20 : decode cX9_feed 20 = .ok (.iload 5, 2) := by decide +kernel
theorem dX9_feed_22 : decode cX9_feed 22 = .ok (.invokestatic 110, 3) := by decide +kernel
theorem dX9_feed_25 : decode cX9_feed 25 = .ok (.iadd, 1) := by decide +kernel
theorem dX9_feed_26 : decode cX9_feed 26 = .ok (.istore 6, 2) := by decide +kernel
theorem dX9_feed_28 : decode cX9_feed 28 = .ok (.aload_n 0, 1) := by decide +kernel
theorem dX9_feed_29 : decode cX9_feed 29 = .ok (.getfield 10, 3) := by decide +kernel
theorem dX9_feed_32 : decode cX9_feed 32 = .ok (.getfield 114, 3) := by decide +kernel
theorem dX9_feed_35 : decode cX9_feed 35 = .ok (.iload 6, 2) := by decide +kernel
theorem dX9_feed_37 : decode cX9_feed 37 = .ok (.iadd, 1) := by decide +kernel
theorem dX9_feed_38 : decode cX9_feed 38 = .ok (.sipush 240, 3) := by decide +kernel
theorem dX9_feed_41 : decode cX9_feed 41 = .ok (.if_icmp .le 5, 3) := by decide +kernel
theorem dX9_feed_44 : decode cX9_feed 44 = .ok (.iconst (-1), 1) := by decide +kernel
theorem dX9_feed_45 : decode cX9_feed 45 = .ok (.ireturn, 1) := by decide +kernel
theorem dX9_feed_46 : decode cX9_feed 46 = .ok (.aload_n 0, 1) := by decide +kernel
theorem dX9_feed_47 : decode cX9_feed 47 = .ok (.getfield 10, 3) := by decide +kernel
theorem dX9_feed_50 : decode cX9_feed 50 = .ok (.iload_n 1, 1) := by decide +kernel
theorem dX9_feed_51 : decode cX9_feed 51 = .ok (.invokevirtual 117, 3) := by decide +kernel
theorem dX9_feed_54 : decode cX9_feed 54 = .ok (.aload_n 0, 1) := by decide +kernel
theorem dX9_feed_55 : decode cX9_feed 55 = .ok (.getfield 10, 3) := by decide +kernel
theorem dX9_feed_58 : decode cX9_feed 58 = .ok (.iload_n 2, 1) := by decide +kernel
theorem dX9_feed_59 : decode cX9_feed 59 = .ok (.invokevirtual 117, 3) := by decide +kernel
theorem dX9_feed_62 : decode cX9_feed 62 = .ok (.aload_n 0, 1) := by decide +kernel
theorem dX9_feed_63 : decode cX9_feed 63 = .ok (.getfield 10, 3) := by decide +kernel
theorem dX9_feed_66 : decode cX9_feed 66 = .ok (.iload_n 3, 1) := by decide +kernel
theorem dX9_feed_67 : decode cX9_feed 67 = .ok (.invokevirtual 117, 3) := by decide +kernel
theorem dX9_feed_70 : decode cX9_feed 70 = .ok (.aload_n 0, 1) := by decide +kernel
theorem dX9_feed_71 : decode cX9_feed 71 = .ok (.getfield 10, 3) := by decide +kernel
theorem dX9_feed_74 : decode cX9_feed 74 = .ok (.iload 4, 2) := by decide +kernel
theorem dX9_feed_76 : decode cX9_feed 76 = .ok (.invokevirtual 117, 3) := by decide +kernel
theorem dX9_feed_79 : decode cX9_feed 79 = .ok (.aload_n 0, 1) := by decide +kernel
theorem dX9_feed_80 : decode cX9_feed 80 = .ok (.getfield 10, 3) := by decide +kernel
theorem dX9_feed_83 : decode cX9_feed 83 = .ok (.iload 5, 2) := by decide +kernel
theorem dX9_feed_85 : decode cX9_feed 85 = .ok (.invokevirtual 117, 3) := by decide +kernel
theorem dX9_feed_88 : decode cX9_feed 88 = .ok (.aload_n 0, 1) := by decide +kernel
theorem dX9_feed_89 : decode cX9_feed 89 = .ok (.getfield 10, 3) := by decide +kernel
theorem dX9_feed_92 : decode cX9_feed 92 = .ok (.getfield 114, 3) := by decide +kernel
theorem dX9_feed_95 : decode cX9_feed 95 = .ok (.ireturn, 1) := by decide +kernel
theorem dX9_liking_0 : decode cX9_liking 0 = .ok (.aload_n 0, 1) := by decide +kernel
theorem dX9_liking_1 : decode cX9_liking 1 = .ok (.getfield 58, 3) := by decide +kernel
theorem dX9_liking_4 : decode cX9_liking 4 = .ok (.iload_n 1, 1) := by decide +kernel
theorem dX9_liking_5 : decode cX9_liking 5 = .ok (.invokevirtual 142, 3) := by decide +kernel
theorem dX9_liking_8 : decode cX9_liking 8 = .ok (.aload_n 0, 1) := by decide +kernel
theorem dX9_liking_9 : decode cX9_liking 9 = .ok (.getfield 58, 3) := by decide +kernel
theorem dX9_liking_12 : decode cX9_liking 12 = .ok (.iload_n 2, 1) := by decide +kernel
theorem dX9_liking_13 : decode cX9_liking 13 = .ok (.invokevirtual 145, 3) := by decide +kernel
theorem dX9_liking_16 : decode cX9_liking 16 = .ok (.isub, 1) := by decide +kernel
theorem dX9_liking_17 : decode cX9_liking 17 = .ok (.ireturn, 1) := by decide +kernel
theorem dX9_seatLiking_0 : decode cX9_seatLiking 0 = .ok (.aload_n 1, 1) := by decide +kernel
theorem dX9_seatLiking_1 : decode cX9_seatLiking 1 = .ok (.iload_n 2, 1) := by decide +kernel
theorem dX9_seatLiking_2 : decode cX9_seatLiking 2 = .ok (.invokestatic 333, 3) := by decide +kernel
theorem dX9_seatLiking_5 : decode cX9_seatLiking 5 = .ok (.istore_n 3, 1) := by decide +kernel
theorem dX9_seatLiking_6 : decode cX9_seatLiking 6 = .ok (.iload_n 3, 1) := by decide +kernel
theorem dX9_seatLiking_7 : decode cX9_seatLiking 7 = .ok (.bipush 9, 2) := by decide +kernel
theorem dX9_seatLiking_9 : decode cX9_seatLiking 9 = .ok (.if_icmp .ne 7, 3) := by decide +kernel
theorem dX9_seatLiking_12 : decode cX9_seatLiking 12 = .ok (.iconst 0, 1) := by decide +kernel
theorem dX9_seatLiking_13 : decode cX9_seatLiking 13 = .ok (.goto 9, 3) := by decide +kernel
theorem dX9_seatLiking_16 : decode cX9_seatLiking 16 = .ok (.aload_n 0, 1) := by decide +kernel
theorem dX9_seatLiking_17 : decode cX9_seatLiking 17 = .ok (.iload_n 2, 1) := by decide +kernel
theorem dX9_seatLiking_18 : decode cX9_seatLiking 18 = .ok (.iload_n 3, 1) := by decide +kernel
theorem dX9_seatLiking_19 : decode cX9_seatLiking 19 = .ok (.invokevirtual 429, 3) := by decide +kernel
theorem dX9_seatLiking_22 : decode cX9_seatLiking 22 = .ok (.ireturn, 1) := by decide +kernel
theorem dX9_isFirm_0 : decode cX9_isFirm 0 = .ok (.iconst 0, 1) := by decide +kernel
theorem dX9_isFirm_1 : decode cX9_isFirm 1 = .ok (.istore_n 2, 1) := by decide +kernel
theorem dX9_isFirm_2 : decode cX9_isFirm 2 = .ok (.iload_n 2, 1) := by decide +kernel
theorem dX9_isFirm_3 : decode cX9_isFirm 3 = .ok (.aload_n 0, 1) := by decide +kernel
theorem dX9_isFirm_4 : decode cX9_isFirm 4 = .ok (.getfield 58, 3) := by decide +kernel
theorem dX9_isFirm_7 : decode cX9_isFirm 7 = .ok (.getfield 282, 3) := by decide +kernel
theorem dX9_isFirm_10 : decode cX9_isFirm 10 = .ok (.if_icmp .ge 82, 3) := by decide +kernel
theorem dX9_isFirm_13 : decode cX9_isFirm 13 = .ok (.aload_n 0, 1) := by decide +kernel
theorem dX9_isFirm_14 : decode cX9_isFirm 14 = .ok (.aload_n 1, 1) := by decide +kernel
theorem dX9_isFirm_15 : decode cX9_isFirm 15 = .ok (.iload_n 2, 1) := by decide +kernel
theorem dX9_isFirm_16 : decode cX9_isFirm 16 = .ok (.invokevirtual 432, 3) := by decide +kernel
theorem dX9_isFirm_19 : decode cX9_isFirm 19 = .ok (.ifCond .ge 5, 3) := by decide +kernel
theorem dX9_isFirm_22 : decode cX9_isFirm 22 = .ok (.iconst 0, 1) := by decide +kernel
theorem dX9_isFirm_23 : decode cX9_isFirm 23 = .ok (.ireturn, 1) := by decide +kernel
theorem dX9_isFirm_24 : decode cX9_isFirm 24 = .ok (.iload_n 2, 1) := by decide +kernel
theorem dX9_isFirm_25 : decode cX9_isFirm 25 = .ok (.iconst 1, 1) := by decide +kernel
theorem dX9_isFirm_26 : decode cX9_isFirm 26 = .ok (.iadd, 1) := by decide +kernel
theorem dX9_isFirm_27 : decode cX9_isFirm 27 = .ok (.istore_n 3, 1) := by decide +kernel
theorem dX9_isFirm_28 : decode cX9_isFirm 28 = .ok (.iload_n 3, 1) := by decide +kernel
theorem dX9_isFirm_29 : decode cX9_isFirm 29 = .ok (.aload_n 0, 1) := by decide +kernel
theorem dX9_isFirm_30 : decode cX9_isFirm 30 = .ok (.getfield 58, 3) := by decide +kernel
theorem dX9_isFirm_33 : decode cX9_isFirm 33 = .ok (.getfield 282, 3) := by decide +kernel
theorem dX9_isFirm_36 : decode cX9_isFirm 36 = .ok (.if_icmp .ge 50, 3) := by decide +kernel
theorem dX9_isFirm_39 : decode cX9_isFirm 39 = .ok (.aload_n 1, 1) := by decide +kernel
theorem dX9_isFirm_40 : decode cX9_isFirm 40 = .ok (.iload_n 2, 1) := by decide +kernel
theorem dX9_isFirm_41 : decode cX9_isFirm 41 = .ok (.invokestatic 333, 3) := by decide +kernel
theorem dX9_isFirm_44 : decode cX9_isFirm 44 = .ok (.iload_n 3, 1) := by decide +kernel
theorem dX9_isFirm_45 : decode cX9_isFirm 45 = .ok (.if_icmp .eq 35, 3) := by decide +kernel
theorem dX9_isFirm_48 : decode cX9_isFirm 48 = .ok (.aload_n 0, 1) := by decide +kernel
theorem dX9_isFirm_49 : decode cX9_isFirm 49 = .ok (.iload_n 2, 1) := by decide +kernel
theorem dX9_isFirm_50 : decode cX9_isFirm 50 = .ok (.iload_n 3, 1) := by decide +kernel
theorem dX9_isFirm_51 : decode cX9_isFirm 51 = .ok (.invokevirtual 429, 3) := by decide +kernel
theorem dX9_isFirm_54 : decode cX9_isFirm 54 = .ok (.aload_n 0, 1) := by decide +kernel
theorem dX9_isFirm_55 : decode cX9_isFirm 55 = .ok (.aload_n 1, 1) := by decide +kernel
theorem dX9_isFirm_56 : decode cX9_isFirm 56 = .ok (.iload_n 2, 1) := by decide +kernel
theorem dX9_isFirm_57 : decode cX9_isFirm 57 = .ok (.invokevirtual 432, 3) := by decide +kernel
theorem dX9_isFirm_60 : decode cX9_isFirm 60 = .ok (.if_icmp .le 20, 3) := by decide +kernel
theorem dX9_isFirm_63 : decode cX9_isFirm 63 = .ok (.aload_n 0, 1) := by decide +kernel
theorem dX9_isFirm_64 : decode cX9_isFirm 64 = .ok (.iload_n 3, 1) := by decide +kernel
theorem dX9_isFirm_65 : decode cX9_isFirm 65 = .ok (.iload_n 2, 1) := by decide +kernel
theorem dX9_isFirm_66 : decode cX9_isFirm 66 = .ok (.invokevirtual 429, 3) := by decide +kernel
theorem dX9_isFirm_69 : decode cX9_isFirm 69 = .ok (.aload_n 0, 1) := by decide +kernel
theorem dX9_isFirm_70 : decode cX9_isFirm 70 = .ok (.aload_n 1, 1) := by decide +kernel
theorem dX9_isFirm_71 : decode cX9_isFirm 71 = .ok (.iload_n 3, 1) := by decide +kernel
theorem dX9_isFirm_72 : decode cX9_isFirm 72 = .ok (.invokevirtual 432, 3) := by decide +kernel
theorem dX9_isFirm_75 : decode cX9_isFirm 75 = .ok (.if_icmp .le 5, 3) := by decide +kernel
theorem dX9_isFirm_78 : decode cX9_isFirm 78 = .ok (.iconst 0, 1) := by decide +kernel
theorem dX9_isFirm_79 : decode cX9_isFirm 79 = .ok (.ireturn, 1) := by decide +kernel
theorem dX9_isFirm_80 : decode cX9_isFirm 80 = .ok (.iinc 3 1, 3) := by decide +kernel
theorem dX9_isFirm_83 : decode cX9_isFirm 83 = .ok (.goto (-55), 3) := by decide +kernel
theorem dX9_isFirm_86 : decode cX9_isFirm 86 = .ok (.iinc 2 1, 3) := by decide +kernel
theorem dX9_isFirm_89 : decode cX9_isFirm 89 = .ok (.goto (-87), 3) := by decide +kernel
theorem dX9_isFirm_92 : decode cX9_isFirm 92 = .ok (.iconst 1, 1) := by decide +kernel
theorem dX9_isFirm_93 : decode cX9_isFirm 93 = .ok (.ireturn, 1) := by decide +kernel
theorem dX5_rowAt_0 : decode cX5_rowAt 0 = .ok (.aload_n 0, 1) := by decide +kernel
theorem dX5_rowAt_1 : decode cX5_rowAt 1 = .ok (.getfield 9, 3) := by decide +kernel
theorem dX5_rowAt_4 : decode cX5_rowAt 4 = .ok (.iload_n 1, 1) := by decide +kernel
theorem dX5_rowAt_5 : decode cX5_rowAt 5 = .ok (.invokestatic 36, 3) := by decide +kernel
theorem dX5_rowAt_8 : decode cX5_rowAt 8 = .ok (.ireturn, 1) := by decide +kernel
theorem dX5_seatsOf_0 : decode cX5_seatsOf 0 = .ok (.aload_n 0, 1) := by decide +kernel
theorem dX5_seatsOf_1 : decode cX5_seatsOf 1 = .ok (.iload_n 1, 1) := by decide +kernel
theorem dX5_seatsOf_2 : decode cX5_seatsOf 2 = .ok (.invokevirtual 43, 3) := by decide +kernel
theorem dX5_seatsOf_5 : decode cX5_seatsOf 5 = .ok (.istore_n 2, 1) := by decide +kernel
theorem dX5_seatsOf_6 : decode cX5_seatsOf 6 = .ok (.aload_n 0, 1) := by decide +kernel
theorem dX5_seatsOf_7 : decode cX5_seatsOf 7 = .ok (.getfield 22, 3) := by decide +kernel
theorem dX5_seatsOf_10 : decode cX5_seatsOf 10 = .ok (.iconst 1, 1) := by decide +kernel
theorem dX5_seatsOf_11 : decode cX5_seatsOf 11 = .ok (.isub, 1) := by decide +kernel
theorem dX5_seatsOf_12 : decode cX5_seatsOf 12 = .ok (.istore_n 3, 1) := by decide +kernel
theorem dX5_seatsOf_13 : decode cX5_seatsOf 13 = .ok (.iload_n 3, 1) := by decide +kernel
theorem dX5_seatsOf_14 : decode cX5_seatsOf 14 = .ok (.ifCond .lt 26, 3) := by decide +kernel
theorem dX5_seatsOf_17 : decode cX5_seatsOf 17 = .ok (.aload_n 0, 1) := by decide +kernel
theorem dX5_seatsOf_18 : decode cX5_seatsOf 18 = .ok (.getfield 15, 3) := by decide +kernel
theorem dX5_seatsOf_21 : decode cX5_seatsOf 21 = .ok (.iload_n 3, 1) := by decide +kernel
theorem dX5_seatsOf_22 : decode cX5_seatsOf 22 = .ok (.iload_n 2, 1) := by decide +kernel
theorem dX5_seatsOf_23 : decode cX5_seatsOf 23 = .ok (.bipush 10, 2) := by decide +kernel
theorem dX5_seatsOf_25 : decode cX5_seatsOf 25 = .ok (.irem, 1) := by decide +kernel
theorem dX5_seatsOf_26 : decode cX5_seatsOf 26 = .ok (.invokestatic 25, 3) := by decide +kernel
theorem dX5_seatsOf_29 : decode cX5_seatsOf 29 = .ok (.iload_n 2, 1) := by decide +kernel
theorem dX5_seatsOf_30 : decode cX5_seatsOf 30 = .ok (.bipush 10, 2) := by decide +kernel
theorem dX5_seatsOf_32 : decode cX5_seatsOf 32 = .ok (.idiv, 1) := by decide +kernel
theorem dX5_seatsOf_33 : decode cX5_seatsOf 33 = .ok (.istore_n 2, 1) := by decide +kernel
theorem dX5_seatsOf_34 : decode cX5_seatsOf 34 = .ok (.iinc 3 (-1), 3) := by decide +kernel
theorem dX5_seatsOf_37 : decode cX5_seatsOf 37 = .ok (.goto (-24), 3) := by decide +kernel
theorem dX5_seatsOf_40 : decode cX5_seatsOf 40 = .ok (.aload_n 0, 1) := by decide +kernel
theorem dX5_seatsOf_41 : decode cX5_seatsOf 41 = .ok (.getfield 15, 3) := by decide +kernel
theorem dX5_seatsOf_44 : decode cX5_seatsOf 44 = .ok (.areturn, 1) := by decide +kernel
theorem dX9_firm_0 : decode cX9_firm 0 = .ok (.aload_n 0, 1) := by decide +kernel
theorem dX9_firm_1 : decode cX9_firm 1 = .ok (.invokevirtual 223, 3) := by decide +kernel
theorem dX9_firm_4 : decode cX9_firm 4 = .ok (.ifCond .ne 5, 3) := by decide +kernel
theorem dX9_firm_7 : decode cX9_firm 7 = .ok (.iconst (-1), 1) := by decide +kernel
theorem dX9_firm_8 : decode cX9_firm 8 = .ok (.ireturn, 1) := by decide +kernel
theorem dX9_firm_9 : decode cX9_firm 9 = .ok (.iconst 0, 1) := by decide +kernel
theorem dX9_firm_10 : decode cX9_firm 10 = .ok (.istore_n 2, 1) := by decide +kernel
theorem dX9_firm_11 : decode cX9_firm 11 = .ok (.iconst 0, 1) := by decide +kernel
theorem dX9_firm_12 : decode cX9_firm 12 = .ok (.istore_n 3, 1) := by decide +kernel
theorem dX9_firm_13 : decode cX9_firm 13 = .ok (.iload_n 3, 1) := by decide +kernel
theorem dX9_firm_14 : decode cX9_firm 14 = .ok (.aload_n 0, 1) := by decide +kernel
theorem dX9_firm_15 : decode cX9_firm 15 = .ok (.getfield 96, 3) := by decide +kernel
theorem dX9_firm_18 : decode cX9_firm 18 = .ok (.getfield 305, 3) := by decide +kernel
theorem dX9_firm_21 : decode cX9_firm 21 = .ok (.if_icmp .ge 41, 3) := by decide +kernel
theorem dX9_firm_24 : decode cX9_firm 24 = .ok (.aload_n 0, 1) := by decide +kernel
theorem dX9_firm_25 : decode cX9_firm 25 = .ok (.aload_n 0, 1) := by decide +kernel
theorem dX9_firm_26 : decode cX9_firm 26 = .ok (.getfield 96, 3) := by decide +kernel
theorem dX9_firm_29 : decode cX9_firm 29 = .ok (.iload_n 3, 1) := by decide +kernel
theorem dX9_firm_30 : decode cX9_firm 30 = .ok (.invokevirtual 308, 3) := by decide +kernel
theorem dX9_firm_33 : decode cX9_firm 33 = .ok (.invokevirtual 319, 3) := by decide +kernel
theorem dX9_firm_36 : decode cX9_firm 36 = .ok (.ifCond .eq 20, 3) := by decide +kernel
theorem dX9_firm_39 : decode cX9_firm 39 = .ok (.iload_n 2, 1) := by decide +kernel
theorem dX9_firm_40 : decode cX9_firm 40 = .ok (.iload_n 1, 1) := by decide +kernel
theorem dX9_firm_41 : decode cX9_firm 41 = .ok (.if_icmp .ne 12, 3) := by decide +kernel
theorem dX9_firm_44 : decode cX9_firm 44 = .ok (.aload_n 0, 1) := by decide +kernel
theorem dX9_firm_45 : decode cX9_firm 45 = .ok (.getfield 96, 3) := by decide +kernel
theorem dX9_firm_48 : decode cX9_firm 48 = .ok (.iload_n 3, 1) := by decide +kernel
theorem dX9_firm_49 : decode cX9_firm 49 = .ok (.invokevirtual 316, 3) := by decide +kernel
theorem dX9_firm_52 : decode cX9_firm 52 = .ok (.ireturn, 1) := by decide +kernel
theorem dX9_firm_53 : decode cX9_firm 53 = .ok (.iinc 2 1, 3) := by decide +kernel
theorem dX9_firm_56 : decode cX9_firm 56 = .ok (.iinc 3 1, 3) := by decide +kernel
theorem dX9_firm_59 : decode cX9_firm 59 = .ok (.goto (-46), 3) := by decide +kernel
theorem dX9_firm_62 : decode cX9_firm 62 = .ok (.iload_n 1, 1) := by decide +kernel
theorem dX9_firm_63 : decode cX9_firm 63 = .ok (.iconst (-1), 1) := by decide +kernel
theorem dX9_firm_64 : decode cX9_firm 64 = .ok (.if_icmp .ne 7, 3) := by decide +kernel
theorem dX9_firm_67 : decode cX9_firm 67 = .ok (.iload_n 2, 1) := by decide +kernel
theorem dX9_firm_68 : decode cX9_firm 68 = .ok (.goto 4, 3) := by decide +kernel
theorem dX9_firm_71 : decode cX9_firm 71 = .ok (.iconst (-1), 1) := by decide +kernel
theorem dX9_firm_72 : decode cX9_firm 72 = .ok (.ireturn, 1) := by decide +kernel
theorem dX9_gains_0 : decode cX9_gains 0 = .ok (.iload_n 3, 1) := by decide +kernel
theorem dX9_gains_1 : decode cX9_gains 1 = .ok (.iload_n 1, 1) := by decide +kernel
theorem dX9_gains_2 : decode cX9_gains 2 = .ok (.if_icmp .eq 11, 3) := by decide +kernel
theorem dX9_gains_5 : decode cX9_gains 5 = .ok (.aload_n 0, 1) := by decide +kernel
theorem dX9_gains_6 : decode cX9_gains 6 = .ok (.iload_n 3, 1) := by decide +kernel
theorem dX9_gains_7 : decode cX9_gains 7 = .ok (.invokevirtual 132, 3) := by decide +kernel
theorem dX9_gains_10 : decode cX9_gains 10 = .ok (.ifCond .ne 8, 3) := by decide +kernel
theorem dX9_gains_13 : decode cX9_gains 13 = .ok (.bipush (-9), 2) := by decide +kernel
theorem dX9_gains_15 : decode cX9_gains 15 = .ok (.goto 9, 3) := by decide +kernel
theorem dX9_gains_18 : decode cX9_gains 18 = .ok (.aload_n 0, 1) := by decide +kernel
theorem dX9_gains_19 : decode cX9_gains 19 = .ok (.iload_n 1, 1) := by decide +kernel
theorem dX9_gains_20 : decode cX9_gains 20 = .ok (.iload_n 3, 1) := by decide +kernel
theorem dX9_gains_21 : decode cX9_gains 21 = .ok (.invokevirtual 429, 3) := by decide +kernel
theorem dX9_gains_24 : decode cX9_gains 24 = .ok (.istore 5, 2) := by decide +kernel
theorem dX9_gains_26 : decode cX9_gains 26 = .ok (.iload_n 3, 1) := by decide +kernel
theorem dX9_gains_27 : decode cX9_gains 27 = .ok (.iload 4, 2) := by decide +kernel
theorem dX9_gains_29 : decode cX9_gains 29 = .ok (.if_icmp .ne 6, 3) := by decide +kernel
theorem dX9_gains_32 : decode cX9_gains 32 = .ok (.iinc 5 (-3), 3) := by decide +kernel
theorem dX9_gains_35 : decode cX9_gains 35 = .ok (.iload_n 3, 1) := by decide +kernel
theorem dX9_gains_36 : decode cX9_gains 36 = .ok (.iload_n 2, 1) := by decide +kernel
theorem dX9_gains_37 : decode cX9_gains 37 = .ok (.if_icmp .ne 12, 3) := by decide +kernel
theorem dX9_gains_40 : decode cX9_gains 40 = .ok (.iload 4, 2) := by decide +kernel
theorem dX9_gains_42 : decode cX9_gains 42 = .ok (.iload_n 1, 1) := by decide +kernel
theorem dX9_gains_43 : decode cX9_gains 43 = .ok (.if_icmp .ne 6, 3) := by decide +kernel
theorem dX9_gains_46 : decode cX9_gains 46 = .ok (.iinc 5 2, 3) := by decide +kernel
theorem dX9_gains_49 : decode cX9_gains 49 = .ok (.iload 5, 2) := by decide +kernel
theorem dX9_gains_51 : decode cX9_gains 51 = .ok (.ireturn, 1) := by decide +kernel
theorem dX9_game_0 : decode cX9_game 0 = .ok (.aload_n 0, 1) := by decide +kernel
theorem dX9_game_1 : decode cX9_game 1 = .ok (.iload_n 1, 1) := by decide +kernel
theorem dX9_game_2 : decode cX9_game 2 = .ok (.iload_n 2, 1) := by decide +kernel
theorem dX9_game_3 : decode cX9_game 3 = .ok (.invokevirtual 205, 3) := by decide +kernel
theorem dX9_game_6 : decode cX9_game 6 = .ok (.ifCond .eq 25, 3) := by decide +kernel
theorem dX9_game_9 : decode cX9_game 9 = .ok (.iload_n 3, 1) := by decide +kernel
theorem dX9_game_10 : decode cX9_game 10 = .ok (.ifCond .lt 21, 3) := by decide +kernel
theorem dX9_game_13 : decode cX9_game 13 = .ok (.iload_n 3, 1) := by decide +kernel
theorem dX9_game_14 : decode cX9_game 14 = .ok (.bipush 6, 2) := by decide +kernel
theorem dX9_game_16 : decode cX9_game 16 = .ok (.if_icmp .ge 15, 3) := by decide +kernel
theorem dX9_game_19 : decode cX9_game 19 = .ok (.iload 4, 2) := by decide +kernel
theorem dX9_game_21 : decode cX9_game 21 = .ok (.ifCond .lt 10, 3) := by decide +kernel
theorem dX9_game_24 : decode cX9_game 24 = .ok (.iload 4, 2) := by decide +kernel
theorem dX9_game_26 : decode cX9_game 26 = .ok (.bipush 6, 2) := by decide +kernel
theorem dX9_game_28 : decode cX9_game 28 = .ok (.if_icmp .lt 6, 3) := by decide +kernel
theorem dX9_game_31 : decode cX9_game 31 = .ok (.ldc 249, 2) := by decide +kernel
theorem dX9_game_33 : decode cX9_game 33 = .ok (.ireturn, 1) := by decide +kernel
theorem dX9_game_34 : decode cX9_game 34 = .ok (.iload 5, 2) := by decide +kernel
theorem dX9_game_36 : decode cX9_game 36 = .ok (.lookupswitch 48 #[(0, 28), (1, 38)], 28) := by decide +kernel
theorem dX9_game_64 : decode cX9_game 64 = .ok (.aload_n 0, 1) := by decide +kernel
theorem dX9_game_65 : decode cX9_game 65 = .ok (.iload_n 1, 1) := by decide +kernel
theorem dX9_game_66 : decode cX9_game 66 = .ok (.iload_n 2, 1) := by decide +kernel
theorem dX9_game_67 : decode cX9_game 67 = .ok (.iload_n 3, 1) := by decide +kernel
theorem dX9_game_68 : decode cX9_game 68 = .ok (.iload 4, 2) := by decide +kernel
theorem dX9_game_70 : decode cX9_game 70 = .ok (.invokevirtual 342, 3) := by decide +kernel
theorem dX9_game_73 : decode cX9_game 73 = .ok (.ireturn, 1) := by decide +kernel
theorem dX9_game_74 : decode cX9_game 74 = .ok (.aload_n 0, 1) := by decide +kernel
theorem dX9_game_75 : decode cX9_game 75 = .ok (.iload_n 2, 1) := by decide +kernel
theorem dX9_game_76 : decode cX9_game 76 = .ok (.iload_n 1, 1) := by decide +kernel
theorem dX9_game_77 : decode cX9_game 77 = .ok (.iload 4, 2) := by decide +kernel
theorem dX9_game_79 : decode cX9_game 79 = .ok (.iload_n 3, 1) := by decide +kernel
theorem dX9_game_80 : decode cX9_game 80 = .ok (.invokevirtual 342, 3) := by decide +kernel
theorem dX9_game_83 : decode cX9_game 83 = .ok (.ireturn, 1) := by decide +kernel
theorem dX9_game_84 : decode cX9_game 84 = .ok (.ldc 249, 2) := by decide +kernel
theorem dX9_game_86 : decode cX9_game 86 = .ok (.ireturn, 1) := by decide +kernel
theorem dX9_give_0 : decode cX9_give 0 = .ok (.aload_n 0, 1) := by decide +kernel
theorem dX9_give_1 : decode cX9_give 1 = .ok (.invokevirtual 223, 3) := by decide +kernel
theorem dX9_give_4 : decode cX9_give 4 = .ok (.ifCond .eq 29, 3) := by decide +kernel
theorem dX9_give_7 : decode cX9_give 7 = .ok (.iload_n 1, 1) := by decide +kernel
theorem dX9_give_8 : decode cX9_give 8 = .ok (.iconst 1, 1) := by decide +kernel
theorem dX9_give_9 : decode cX9_give 9 = .ok (.if_icmp .lt 24, 3) := by decide +kernel
theorem dX9_give_12 : decode cX9_give 12 = .ok (.iload_n 1, 1) := by decide +kernel
theorem dX9_give_13 : decode cX9_give 13 = .ok (.bipush 50, 2) := by decide +kernel
theorem dX9_give_15 : decode cX9_give 15 = .ok (.if_icmp .gt 18, 3) := by decide +kernel
theorem dX9_give_18 : decode cX9_give 18 = .ok (.aload_n 0, 1) := by decide +kernel
theorem dX9_give_19 : decode cX9_give 19 = .ok (.getfield 58, 3) := by decide +kernel
theorem dX9_give_22 : decode cX9_give 22 = .ok (.getfield 209, 3) := by decide +kernel
theorem dX9_give_25 : decode cX9_give 25 = .ok (.iload_n 1, 1) := by decide +kernel
theorem dX9_give_26 : decode cX9_give 26 = .ok (.iadd, 1) := by decide +kernel
theorem dX9_give_27 : decode cX9_give 27 = .ok (.sipush 999, 3) := by decide +kernel
theorem dX9_give_30 : decode cX9_give 30 = .ok (.if_icmp .le 5, 3) := by decide +kernel
theorem dX9_give_33 : decode cX9_give 33 = .ok (.iconst (-1), 1) := by decide +kernel
theorem dX9_give_34 : decode cX9_give 34 = .ok (.ireturn, 1) := by decide +kernel
theorem dX9_give_35 : decode cX9_give 35 = .ok (.aload_n 0, 1) := by decide +kernel
theorem dX9_give_36 : decode cX9_give 36 = .ok (.getfield 75, 3) := by decide +kernel
theorem dX9_give_39 : decode cX9_give 39 = .ok (.aload_n 0, 1) := by decide +kernel
theorem dX9_give_40 : decode cX9_give 40 = .ok (.getfield 58, 3) := by decide +kernel
theorem dX9_give_43 : decode cX9_give 43 = .ok (.invokevirtual 173, 3) := by decide +kernel
theorem dX9_give_46 : decode cX9_give 46 = .ok (.aload_n 0, 1) := by decide +kernel
theorem dX9_give_47 : decode cX9_give 47 = .ok (.getfield 75, 3) := by decide +kernel
theorem dX9_give_50 : decode cX9_give 50 = .ok (.invokevirtual 181, 3) := by decide +kernel
theorem dX9_give_53 : decode cX9_give 53 = .ok (.aload_n 0, 1) := by decide +kernel
theorem dX9_give_54 : decode cX9_give 54 = .ok (.getfield 58, 3) := by decide +kernel
theorem dX9_give_57 : decode cX9_give 57 = .ok (.dup, 1) := by decide +kernel
theorem dX9_give_58 : decode cX9_give 58 = .ok (.getfield 209, 3) := by decide +kernel
theorem dX9_give_61 : decode cX9_give 61 = .ok (.iload_n 1, 1) := by decide +kernel
theorem dX9_give_62 : decode cX9_give 62 = .ok (.iadd, 1) := by decide +kernel
theorem dX9_give_63 : decode cX9_give 63 = .ok (.putfield 209, 3) := by decide +kernel
theorem dX9_give_66 : decode cX9_give 66 = .ok (.aload_n 0, 1) := by decide +kernel
theorem dX9_give_67 : decode cX9_give 67 = .ok (.getfield 58, 3) := by decide +kernel
theorem dX9_give_70 : decode cX9_give 70 = .ok (.getfield 209, 3) := by decide +kernel
theorem dX9_give_73 : decode cX9_give 73 = .ok (.ireturn, 1) := by decide +kernel
theorem dX1_add_0 : decode cX1_add 0 = .ok (.aload_n 0, 1) := by decide +kernel
theorem dX1_add_1 : decode cX1_add 1 = .ok (.getfield 25, 3) := by decide +kernel
theorem dX1_add_4 : decode cX1_add 4 = .ok (.ifCond .lt 52, 3) := by decide +kernel
theorem dX1_add_7 : decode cX1_add 7 = .ok (.aload_n 0, 1) := by decide +kernel
theorem dX1_add_8 : decode cX1_add 8 = .ok (.getfield 25, 3) := by decide +kernel
theorem dX1_add_11 : decode cX1_add 11 = .ok (.bipush 10, 2) := by decide +kernel
theorem dX1_add_13 : decode cX1_add 13 = .ok (.if_icmp .ge 43, 3) := by decide +kernel
theorem dX1_add_16 : decode cX1_add 16 = .ok (.aload_n 0, 1) := by decide +kernel
theorem dX1_add_17 : decode cX1_add 17 = .ok (.getfield 9, 3) := by decide +kernel
theorem dX1_add_20 : decode cX1_add 20 = .ok (.aload_n 0, 1) := by decide +kernel
theorem dX1_add_21 : decode cX1_add 21 = .ok (.getfield 25, 3) := by decide +kernel
theorem dX1_add_24 : decode cX1_add 24 = .ok (.iload_n 1, 1) := by decide +kernel
theorem dX1_add_25 : decode cX1_add 25 = .ok (.iastore, 1) := by decide +kernel
theorem dX1_add_26 : decode cX1_add 26 = .ok (.aload_n 0, 1) := by decide +kernel
theorem dX1_add_27 : decode cX1_add 27 = .ok (.getfield 15, 3) := by decide +kernel
theorem dX1_add_30 : decode cX1_add 30 = .ok (.aload_n 0, 1) := by decide +kernel
theorem dX1_add_31 : decode cX1_add 31 = .ok (.getfield 25, 3) := by decide +kernel
theorem dX1_add_34 : decode cX1_add 34 = .ok (.iload_n 2, 1) := by decide +kernel
theorem dX1_add_35 : decode cX1_add 35 = .ok (.iastore, 1) := by decide +kernel
theorem dX1_add_36 : decode cX1_add 36 = .ok (.aload_n 0, 1) := by decide +kernel
theorem dX1_add_37 : decode cX1_add 37 = .ok (.getfield 18, 3) := by decide +kernel
theorem dX1_add_40 : decode cX1_add 40 = .ok (.aload_n 0, 1) := by decide +kernel
theorem dX1_add_41 : decode cX1_add 41 = .ok (.getfield 25, 3) := by decide +kernel
theorem dX1_add_44 : decode cX1_add 44 = .ok (.iload_n 3, 1) := by decide +kernel
theorem dX1_add_45 : decode cX1_add 45 = .ok (.bastore, 1) := by decide +kernel
theorem dX1_add_46 : decode cX1_add 46 = .ok (.aload_n 0, 1) := by decide +kernel
theorem dX1_add_47 : decode cX1_add 47 = .ok (.dup, 1) := by decide +kernel
theorem dX1_add_48 : decode cX1_add 48 = .ok (.getfield 25, 3) := by decide +kernel
theorem dX1_add_51 : decode cX1_add 51 = .ok (.iconst 1, 1) := by decide +kernel
theorem dX1_add_52 : decode cX1_add 52 = .ok (.iadd, 1) := by decide +kernel
theorem dX1_add_53 : decode cX1_add 53 = .ok (.putfield 25, 3) := by decide +kernel
theorem dX1_add_56 : decode cX1_add 56 = .ok (.return_, 1) := by decide +kernel
theorem dX9_given_0 : decode cX9_given 0 = .ok (.aload_n 0, 1) := by decide +kernel
theorem dX9_given_1 : decode cX9_given 1 = .ok (.iload_n 1, 1) := by decide +kernel
theorem dX9_given_2 : decode cX9_given 2 = .ok (.invokevirtual 154, 3) := by decide +kernel
theorem dX9_given_5 : decode cX9_given 5 = .ok (.ifCond .eq 26, 3) := by decide +kernel
theorem dX9_given_8 : decode cX9_given 8 = .ok (.iload_n 2, 1) := by decide +kernel
theorem dX9_given_9 : decode cX9_given 9 = .ok (.iconst 1, 1) := by decide +kernel
theorem dX9_given_10 : decode cX9_given 10 = .ok (.if_icmp .lt 21, 3) := by decide +kernel
theorem dX9_given_13 : decode cX9_given 13 = .ok (.iload_n 2, 1) := by decide +kernel
theorem dX9_given_14 : decode cX9_given 14 = .ok (.bipush 30, 2) := by decide +kernel
theorem dX9_given_16 : decode cX9_given 16 = .ok (.if_icmp .gt 15, 3) := by decide +kernel
theorem dX9_given_19 : decode cX9_given 19 = .ok (.aload_n 0, 1) := by decide +kernel
theorem dX9_given_20 : decode cX9_given 20 = .ok (.getfield 89, 3) := by decide +kernel
theorem dX9_given_23 : decode cX9_given 23 = .ok (.getfield 323, 3) := by decide +kernel
theorem dX9_given_26 : decode cX9_given 26 = .ok (.bipush 10, 2) := by decide +kernel
theorem dX9_given_28 : decode cX9_given 28 = .ok (.if_icmp .lt 5, 3) := by decide +kernel
theorem dX9_given_31 : decode cX9_given 31 = .ok (.iconst (-1), 1) := by decide +kernel
theorem dX9_given_32 : decode cX9_given 32 = .ok (.ireturn, 1) := by decide +kernel
theorem dX9_given_33 : decode cX9_given 33 = .ok (.aload_n 0, 1) := by decide +kernel
theorem dX9_given_34 : decode cX9_given 34 = .ok (.getfield 89, 3) := by decide +kernel
theorem dX9_given_37 : decode cX9_given 37 = .ok (.iload_n 1, 1) := by decide +kernel
theorem dX9_given_38 : decode cX9_given 38 = .ok (.iload_n 2, 1) := by decide +kernel
theorem dX9_given_39 : decode cX9_given 39 = .ok (.iload_n 3, 1) := by decide +kernel
theorem dX9_given_40 : decode cX9_given 40 = .ok (.invokevirtual 324, 3) := by decide +kernel
theorem dX9_given_43 : decode cX9_given 43 = .ok (.aload_n 0, 1) := by decide +kernel
theorem dX9_given_44 : decode cX9_given 44 = .ok (.getfield 89, 3) := by decide +kernel
theorem dX9_given_47 : decode cX9_given 47 = .ok (.getfield 323, 3) := by decide +kernel
theorem dX9_given_50 : decode cX9_given 50 = .ok (.ireturn, 1) := by decide +kernel
theorem dX9_graves_0 : decode cX9_graves 0 = .ok (.aload_n 0, 1) := by decide +kernel
theorem dX9_graves_1 : decode cX9_graves 1 = .ok (.iload_n 1, 1) := by decide +kernel
theorem dX9_graves_2 : decode cX9_graves 2 = .ok (.invokevirtual 154, 3) := by decide +kernel
theorem dX9_graves_5 : decode cX9_graves 5 = .ok (.ifCond .ne 5, 3) := by decide +kernel
theorem dX9_graves_8 : decode cX9_graves 8 = .ok (.iconst (-1), 1) := by decide +kernel
theorem dX9_graves_9 : decode cX9_graves 9 = .ok (.ireturn, 1) := by decide +kernel
theorem dX9_graves_10 : decode cX9_graves 10 = .ok (.aload_n 0, 1) := by decide +kernel
theorem dX9_graves_11 : decode cX9_graves 11 = .ok (.iload_n 1, 1) := by decide +kernel
theorem dX9_graves_12 : decode cX9_graves 12 = .ok (.invokevirtual 327, 3) := by decide +kernel
theorem dX9_graves_15 : decode cX9_graves 15 = .ok (.pop, 1) := by decide +kernel
theorem dX9_graves_16 : decode cX9_graves 16 = .ok (.iconst 0, 1) := by decide +kernel
theorem dX9_graves_17 : decode cX9_graves 17 = .ok (.istore_n 3, 1) := by decide +kernel
theorem dX9_graves_18 : decode cX9_graves 18 = .ok (.iconst 1, 1) := by decide +kernel
theorem dX9_graves_19 : decode cX9_graves 19 = .ok (.istore 4, 2) := by decide +kernel
theorem dX9_graves_21 : decode cX9_graves 21 = .ok (.iload 4, 2) := by decide +kernel
theorem dX9_graves_23 : decode cX9_graves 23 = .ok (.bipush 9, 2) := by decide +kernel
theorem dX9_graves_25 : decode cX9_graves 25 = .ok (.if_icmp .gt 35, 3) := by decide +kernel
theorem dX9_graves_28 : decode cX9_graves 28 = .ok (.aload_n 0, 1) := by decide +kernel
theorem dX9_graves_29 : decode cX9_graves 29 = .ok (.getfield 89, 3) := by decide +kernel
theorem dX9_graves_32 : decode cX9_graves 32 = .ok (.getfield 330, 3) := by decide +kernel
theorem dX9_graves_35 : decode cX9_graves 35 = .ok (.iload 4, 2) := by decide +kernel
theorem dX9_graves_37 : decode cX9_graves 37 = .ok (.invokestatic 333, 3) := by decide +kernel
theorem dX9_graves_40 : decode cX9_graves 40 = .ok (.ifCond .le 14, 3) := by decide +kernel
theorem dX9_graves_43 : decode cX9_graves 43 = .ok (.iload_n 3, 1) := by decide +kernel
theorem dX9_graves_44 : decode cX9_graves 44 = .ok (.iload_n 2, 1) := by decide +kernel
theorem dX9_graves_45 : decode cX9_graves 45 = .ok (.if_icmp .ne 6, 3) := by decide +kernel
theorem dX9_graves_48 : decode cX9_graves 48 = .ok (.iload 4, 2) := by decide +kernel
theorem dX9_graves_50 : decode cX9_graves 50 = .ok (.ireturn, 1) := by decide +kernel
theorem dX9_graves_51 : decode cX9_graves 51 = .ok (.iinc 3 1, 3) := by decide +kernel
theorem dX9_graves_54 : decode cX9_graves 54 = .ok (.iinc 4 1, 3) := by decide +kernel
theorem dX9_graves_57 : decode cX9_graves 57 = .ok (.goto (-36), 3) := by decide +kernel
theorem dX9_graves_60 : decode cX9_graves 60 = .ok (.iload_n 2, 1) := by decide +kernel
theorem dX9_graves_61 : decode cX9_graves 61 = .ok (.iconst (-1), 1) := by decide +kernel
theorem dX9_graves_62 : decode cX9_graves 62 = .ok (.if_icmp .ne 7, 3) := by decide +kernel
theorem dX9_graves_65 : decode cX9_graves 65 = .ok (.iload_n 3, 1) := by decide +kernel
theorem dX9_graves_66 : decode cX9_graves 66 = .ok (.goto 4, 3) := by decide +kernel
theorem dX9_graves_69 : decode cX9_graves 69 = .ok (.iconst (-1), 1) := by decide +kernel
theorem dX9_graves_70 : decode cX9_graves 70 = .ok (.ireturn, 1) := by decide +kernel
theorem dX3_keep_0 : decode cX3_keep 0 = .ok (.iconst 0, 1) := by decide +kernel
theorem dX3_keep_1 : decode cX3_keep 1 = .ok (.istore_n 2, 1) := by decide +kernel
theorem dX3_keep_2 : decode cX3_keep 2 = .ok (.iload_n 2, 1) := by decide +kernel
theorem dX3_keep_3 : decode cX3_keep 3 = .ok (.bipush 60, 2) := by decide +kernel
theorem dX3_keep_5 : decode cX3_keep 5 = .ok (.if_icmp .ge 30, 3) := by decide +kernel
theorem dX3_keep_8 : decode cX3_keep 8 = .ok (.aload_n 0, 1) := by decide +kernel
theorem dX3_keep_9 : decode cX3_keep 9 = .ok (.getfield 15, 3) := by decide +kernel
theorem dX3_keep_12 : decode cX3_keep 12 = .ok (.iload_n 2, 1) := by decide +kernel
theorem dX3_keep_13 : decode cX3_keep 13 = .ok (.aload_n 0, 1) := by decide +kernel
theorem dX3_keep_14 : decode cX3_keep 14 = .ok (.getfield 9, 3) := by decide +kernel
theorem dX3_keep_17 : decode cX3_keep 17 = .ok (.aload_n 1, 1) := by decide +kernel
theorem dX3_keep_18 : decode cX3_keep 18 = .ok (.getfield 18, 3) := by decide +kernel
theorem dX3_keep_21 : decode cX3_keep 21 = .ok (.iload_n 2, 1) := by decide +kernel
theorem dX3_keep_22 : decode cX3_keep 22 = .ok (.isub, 1) := by decide +kernel
theorem dX3_keep_23 : decode cX3_keep 23 = .ok (.invokestatic 44, 3) := by decide +kernel
theorem dX3_keep_26 : decode cX3_keep 26 = .ok (.invokestatic 40, 3) := by decide +kernel
theorem dX3_keep_29 : decode cX3_keep 29 = .ok (.iinc 2 1, 3) := by decide +kernel
theorem dX3_keep_32 : decode cX3_keep 32 = .ok (.goto (-30), 3) := by decide +kernel
theorem dX3_keep_35 : decode cX3_keep 35 = .ok (.return_, 1) := by decide +kernel
theorem dX9_image_0 : decode cX9_image 0 = .ok (.aload_n 0, 1) := by decide +kernel
theorem dX9_image_1 : decode cX9_image 1 = .ok (.invokevirtual 223, 3) := by decide +kernel
theorem dX9_image_4 : decode cX9_image 4 = .ok (.ifCond .ne 5, 3) := by decide +kernel
theorem dX9_image_7 : decode cX9_image 7 = .ok (.iconst (-1), 1) := by decide +kernel
theorem dX9_image_8 : decode cX9_image 8 = .ok (.ireturn, 1) := by decide +kernel
theorem dX9_image_9 : decode cX9_image 9 = .ok (.aload_n 0, 1) := by decide +kernel
theorem dX9_image_10 : decode cX9_image 10 = .ok (.getfield 61, 3) := by decide +kernel
theorem dX9_image_13 : decode cX9_image 13 = .ok (.aload_n 0, 1) := by decide +kernel
theorem dX9_image_14 : decode cX9_image 14 = .ok (.getfield 58, 3) := by decide +kernel
theorem dX9_image_17 : decode cX9_image 17 = .ok (.invokevirtual 262, 3) := by decide +kernel
theorem dX9_image_20 : decode cX9_image 20 = .ok (.aload_n 0, 1) := by decide +kernel
theorem dX9_image_21 : decode cX9_image 21 = .ok (.getfield 82, 3) := by decide +kernel
theorem dX9_image_24 : decode cX9_image 24 = .ok (.aload_n 0, 1) := by decide +kernel
theorem dX9_image_25 : decode cX9_image 25 = .ok (.getfield 58, 3) := by decide +kernel
theorem dX9_image_28 : decode cX9_image 28 = .ok (.invokevirtual 383, 3) := by decide +kernel
theorem dX9_image_31 : decode cX9_image 31 = .ok (.aload_n 0, 1) := by decide +kernel
theorem dX9_image_32 : decode cX9_image 32 = .ok (.iconst 1, 1) := by decide +kernel
theorem dX9_image_33 : decode cX9_image 33 = .ok (.putfield 64, 3) := by decide +kernel
theorem dX9_image_36 : decode cX9_image 36 = .ok (.aload_n 0, 1) := by decide +kernel
theorem dX9_image_37 : decode cX9_image 37 = .ok (.getfield 58, 3) := by decide +kernel
theorem dX9_image_40 : decode cX9_image 40 = .ok (.getfield 227, 3) := by decide +kernel
theorem dX9_image_43 : decode cX9_image 43 = .ok (.ireturn, 1) := by decide +kernel
theorem dX9_isBest_0 : decode cX9_isBest 0 = .ok (.aload_n 0, 1) := by decide +kernel
theorem dX9_isBest_1 : decode cX9_isBest 1 = .ok (.iload_n 1, 1) := by decide +kernel
theorem dX9_isBest_2 : decode cX9_isBest 2 = .ok (.iload_n 2, 1) := by decide +kernel
theorem dX9_isBest_3 : decode cX9_isBest 3 = .ok (.iload_n 3, 1) := by decide +kernel
theorem dX9_isBest_4 : decode cX9_isBest 4 = .ok (.iload 4, 2) := by decide +kernel
theorem dX9_isBest_6 : decode cX9_isBest 6 = .ok (.invokevirtual 342, 3) := by decide +kernel
theorem dX9_isBest_9 : decode cX9_isBest 9 = .ok (.istore 5, 2) := by decide +kernel
theorem dX9_isBest_11 : decode cX9_isBest 11 = .ok (.iconst 0, 1) := by decide +kernel
theorem dX9_isBest_12 : decode cX9_isBest 12 = .ok (.istore 6, 2) := by decide +kernel
theorem dX9_isBest_14 : decode cX9_isBest 14 = .ok (.iload 6, 2) := by decide +kernel
theorem dX9_isBest_16 : decode cX9_isBest 16 = .ok (.aload_n 0, 1) := by decide +kernel
theorem dX9_isBest_17 : decode cX9_isBest 17 = .ok (.getfield 58, 3) := by decide +kernel
theorem dX9_isBest_20 : decode cX9_isBest 20 = .ok (.getfield 282, 3) := by decide +kernel
theorem dX9_isBest_23 : decode cX9_isBest 23 = .ok (.if_icmp .ge 26, 3) := by decide +kernel
theorem dX9_isBest_26 : decode cX9_isBest 26 = .ok (.aload_n 0, 1) := by decide +kernel
theorem dX9_isBest_27 : decode cX9_isBest 27 = .ok (.iload_n 1, 1) := by decide +kernel
theorem dX9_isBest_28 : decode cX9_isBest 28 = .ok (.iload_n 2, 1) := by decide +kernel
theorem dX9_isBest_29 : decode cX9_isBest 29 = .ok (.iload 6, 2) := by decide +kernel
theorem dX9_isBest_31 : decode cX9_isBest 31 = .ok (.iload 4, 2) := by decide +kernel
theorem dX9_isBest_33 : decode cX9_isBest 33 = .ok (.invokevirtual 342, 3) := by decide +kernel
theorem dX9_isBest_36 : decode cX9_isBest 36 = .ok (.iload 5, 2) := by decide +kernel
theorem dX9_isBest_38 : decode cX9_isBest 38 = .ok (.if_icmp .le 5, 3) := by decide +kernel
theorem dX9_isBest_41 : decode cX9_isBest 41 = .ok (.iconst 0, 1) := by decide +kernel
theorem dX9_isBest_42 : decode cX9_isBest 42 = .ok (.ireturn, 1) := by decide +kernel
theorem dX9_isBest_43 : decode cX9_isBest 43 = .ok (.iinc 6 1, 3) := by decide +kernel
theorem dX9_isBest_46 : decode cX9_isBest 46 = .ok (.goto (-32), 3) := by decide +kernel
theorem dX9_isBest_49 : decode cX9_isBest 49 = .ok (.iconst 1, 1) := by decide +kernel
theorem dX9_isBest_50 : decode cX9_isBest 50 = .ok (.ireturn, 1) := by decide +kernel
theorem dX9_isSession_0 : decode cX9_isSession 0 = .ok (.iload_n 1, 1) := by decide +kernel
theorem dX9_isSession_1 : decode cX9_isSession 1 = .ok (.ifCond .lt 15, 3) := by decide +kernel
theorem dX9_isSession_4 : decode cX9_isSession 4 = .ok (.iload_n 1, 1) := by decide +kernel
theorem dX9_isSession_5 : decode cX9_isSession 5 = .ok (.aload_n 0, 1) := by decide +kernel
theorem dX9_isSession_6 : decode cX9_isSession 6 = .ok (.getfield 45, 3) := by decide +kernel
theorem dX9_isSession_9 : decode cX9_isSession 9 = .ok (.if_icmp .ge 7, 3) := by decide +kernel
theorem dX9_isSession_12 : decode cX9_isSession 12 = .ok (.iconst 1, 1) := by decide +kernel
theorem dX9_isSession_13 : decode cX9_isSession 13 = .ok (.goto 4, 3) := by decide +kernel
theorem dX9_isSession_16 : decode cX9_isSession 16 = .ok (.iconst 0, 1) := by decide +kernel
theorem dX9_isSession_17 : decode cX9_isSession 17 = .ok (.ireturn, 1) := by decide +kernel
theorem dX9_law_0 : decode cX9_law 0 = .ok (.iload_n 1, 1) := by decide +kernel
theorem dX9_law_1 : decode cX9_law 1 = .ok (.iconst (-1), 1) := by decide +kernel
theorem dX9_law_2 : decode cX9_law 2 = .ok (.if_icmp .lt 11, 3) := by decide +kernel
theorem dX9_law_5 : decode cX9_law 5 = .ok (.iload_n 1, 1) := by decide +kernel
theorem dX9_law_6 : decode cX9_law 6 = .ok (.aload_n 0, 1) := by decide +kernel
theorem dX9_law_7 : decode cX9_law 7 = .ok (.getfield 38, 3) := by decide +kernel
theorem dX9_law_10 : decode cX9_law 10 = .ok (.if_icmp .lt 5, 3) := by decide +kernel
theorem dX9_law_13 : decode cX9_law 13 = .ok (.iconst 0, 1) := by decide +kernel
theorem dX9_law_14 : decode cX9_law 14 = .ok (.ireturn, 1) := by decide +kernel
theorem dX9_law_15 : decode cX9_law 15 = .ok (.aload_n 0, 1) := by decide +kernel
theorem dX9_law_16 : decode cX9_law 16 = .ok (.iload_n 1, 1) := by decide +kernel
theorem dX9_law_17 : decode cX9_law 17 = .ok (.putfield 42, 3) := by decide +kernel
theorem dX9_law_20 : decode cX9_law 20 = .ok (.iconst 1, 1) := by decide +kernel
theorem dX9_law_21 : decode cX9_law 21 = .ok (.ireturn, 1) := by decide +kernel
theorem dX3_read_0 : decode cX3_read 0 = .ok (.aload_n 0, 1) := by decide +kernel
theorem dX3_read_1 : decode cX3_read 1 = .ok (.getfield 9, 3) := by decide +kernel
theorem dX3_read_4 : decode cX3_read 4 = .ok (.iload_n 1, 1) := by decide +kernel
theorem dX3_read_5 : decode cX3_read 5 = .ok (.invokestatic 44, 3) := by decide +kernel
theorem dX3_read_8 : decode cX3_read 8 = .ok (.istore_n 3, 1) := by decide +kernel
theorem dX3_read_9 : decode cX3_read 9 = .ok (.iload_n 2, 1) := by decide +kernel
theorem dX3_read_10 : decode cX3_read 10 = .ok (.tableswitch 43 0 2 #[26, 31, 38], 26) := by decide +kernel
theorem dX3_read_36 : decode cX3_read 36 = .ok (.iload_n 3, 1) := by decide +kernel
theorem dX3_read_37 : decode cX3_read 37 = .ok (.bipush 7, 2) := by decide +kernel
theorem dX3_read_39 : decode cX3_read 39 = .ok (.iand, 1) := by decide +kernel
theorem dX3_read_40 : decode cX3_read 40 = .ok (.ireturn, 1) := by decide +kernel
theorem dX3_read_41 : decode cX3_read 41 = .ok (.iload_n 3, 1) := by decide +kernel
theorem dX3_read_42 : decode cX3_read 42 = .ok (.iconst 3, 1) := by decide +kernel
theorem dX3_read_43 : decode cX3_read 43 = .ok (.ishr, 1) := by decide +kernel
theorem dX3_read_44 : decode cX3_read 44 = .ok (.bipush 63, 2) := by decide +kernel
theorem dX3_read_46 : decode cX3_read 46 = .ok (.iand, 1) := by decide +kernel
theorem dX3_read_47 : decode cX3_read 47 = .ok (.ireturn, 1) := by decide +kernel
theorem dX3_read_48 : decode cX3_read 48 = .ok (.iload_n 3, 1) := by decide +kernel
theorem dX3_read_49 : decode cX3_read 49 = .ok (.bipush 9, 2) := by decide +kernel
theorem dX3_read_51 : decode cX3_read 51 = .ok (.ishr, 1) := by decide +kernel
theorem dX3_read_52 : decode cX3_read 52 = .ok (.ireturn, 1) := by decide +kernel
theorem dX3_read_53 : decode cX3_read 53 = .ok (.iconst (-1), 1) := by decide +kernel
theorem dX3_read_54 : decode cX3_read 54 = .ok (.ireturn, 1) := by decide +kernel
theorem dX9_log_0 : decode cX9_log 0 = .ok (.iload_n 1, 1) := by decide +kernel
theorem dX9_log_1 : decode cX9_log 1 = .ok (.ifCond .lt 14, 3) := by decide +kernel
theorem dX9_log_4 : decode cX9_log 4 = .ok (.iload_n 1, 1) := by decide +kernel
theorem dX9_log_5 : decode cX9_log 5 = .ok (.aload_n 0, 1) := by decide +kernel
theorem dX9_log_6 : decode cX9_log 6 = .ok (.getfield 58, 3) := by decide +kernel
theorem dX9_log_9 : decode cX9_log 9 = .ok (.invokestatic 240, 3) := by decide +kernel
theorem dX9_log_12 : decode cX9_log 12 = .ok (.if_icmp .lt 5, 3) := by decide +kernel
theorem dX9_log_15 : decode cX9_log 15 = .ok (.iconst (-1), 1) := by decide +kernel
theorem dX9_log_16 : decode cX9_log 16 = .ok (.ireturn, 1) := by decide +kernel
theorem dX9_log_17 : decode cX9_log 17 = .ok (.aload_n 0, 1) := by decide +kernel
theorem dX9_log_18 : decode cX9_log 18 = .ok (.getfield 82, 3) := by decide +kernel
theorem dX9_log_21 : decode cX9_log 21 = .ok (.aload_n 0, 1) := by decide +kernel
theorem dX9_log_22 : decode cX9_log 22 = .ok (.getfield 58, 3) := by decide +kernel
theorem dX9_log_25 : decode cX9_log 25 = .ok (.getfield 227, 3) := by decide +kernel
theorem dX9_log_28 : decode cX9_log 28 = .ok (.iload_n 1, 1) := by decide +kernel
theorem dX9_log_29 : decode cX9_log 29 = .ok (.isub, 1) := by decide +kernel
theorem dX9_log_30 : decode cX9_log 30 = .ok (.iload_n 2, 1) := by decide +kernel
theorem dX9_log_31 : decode cX9_log 31 = .ok (.invokevirtual 243, 3) := by decide +kernel
theorem dX9_log_34 : decode cX9_log 34 = .ok (.ireturn, 1) := by decide +kernel
theorem dX9_lonelinessGone_0 : decode cX9_lonelinessGone 0 = .ok (.iconst 0, 1) := by decide +kernel
theorem dX9_lonelinessGone_1 : decode cX9_lonelinessGone 1 = .ok (.istore_n 2, 1) := by decide +kernel
theorem dX9_lonelinessGone_2 : decode cX9_lonelinessGone 2 = .ok (.iconst 0, 1) := by decide +kernel
theorem dX9_lonelinessGone_3 : decode cX9_lonelinessGone 3 = .ok (.istore_n 3, 1) := by decide +kernel
theorem dX9_lonelinessGone_4 : decode cX9_lonelinessGone 4 = .ok (.iload_n 3, 1) := by decide +kernel
theorem dX9_lonelinessGone_5 : decode cX9_lonelinessGone 5 = .ok (.aload_n 0, 1) := by decide +kernel
theorem dX9_lonelinessGone_6 : decode cX9_lonelinessGone 6 = .ok (.getfield 58, 3) := by decide +kernel
theorem dX9_lonelinessGone_9 : decode cX9_lonelinessGone 9 = .ok (.getfield 282, 3) := by decide +kernel
theorem dX9_lonelinessGone_12 : decode cX9_lonelinessGone 12 = .ok (.if_icmp .ge 49, 3) := by decide +kernel
theorem dX9_lonelinessGone_15 : decode cX9_lonelinessGone 15 = .ok (.aload_n 1, 1) := by decide +kernel
theorem dX9_lonelinessGone_16 : decode cX9_lonelinessGone 16 = .ok (.iload_n 3, 1) := by decide +kernel
theorem dX9_lonelinessGone_17 : decode cX9_lonelinessGone 17 = .ok (.invokestatic 333, 3) := by decide +kernel
theorem dX9_lonelinessGone_20 : decode cX9_lonelinessGone 20 = .ok (.istore 4, 2) := by decide +kernel
theorem dX9_lonelinessGone_22 : decode cX9_lonelinessGone 22 = .ok (.iload 4, 2) := by decide +kernel
theorem dX9_lonelinessGone_24 : decode cX9_lonelinessGone 24 = .ok (.bipush 9, 2) := by decide +kernel
theorem dX9_lonelinessGone_26 : decode cX9_lonelinessGone 26 = .ok (.if_icmp .eq 29, 3) := by decide +kernel
theorem dX9_lonelinessGone_29 : decode cX9_lonelinessGone 29 = .ok (.aload_n 0, 1) := by decide +kernel
theorem dX9_lonelinessGone_30 : decode cX9_lonelinessGone 30 = .ok (.getfield 58, 3) := by decide +kernel
theorem dX9_lonelinessGone_33 : decode cX9_lonelinessGone 33 = .ok (.iload_n 3, 1) := by decide +kernel
theorem dX9_lonelinessGone_34 : decode cX9_lonelinessGone 34 = .ok (.iload 4, 2) := by decide +kernel
theorem dX9_lonelinessGone_36 : decode cX9_lonelinessGone 36 = .ok (.invokevirtual 184, 3) := by decide +kernel
theorem dX9_lonelinessGone_39 : decode cX9_lonelinessGone 39 = .ok (.ifCond .ne 5, 3) := by decide +kernel
theorem dX9_lonelinessGone_42 : decode cX9_lonelinessGone 42 = .ok (.iconst (-1), 1) := by decide +kernel
theorem dX9_lonelinessGone_43 : decode cX9_lonelinessGone 43 = .ok (.ireturn, 1) := by decide +kernel
theorem dX9_lonelinessGone_44 : decode cX9_lonelinessGone 44 = .ok (.iload_n 2, 1) := by decide +kernel
theorem dX9_lonelinessGone_45 : decode cX9_lonelinessGone 45 = .ok (.aload_n 0, 1) := by decide +kernel
theorem dX9_lonelinessGone_46 : decode cX9_lonelinessGone 46 = .ok (.getfield 58, 3) := by decide +kernel
theorem dX9_lonelinessGone_49 : decode cX9_lonelinessGone 49 = .ok (.iload_n 3, 1) := by decide +kernel
theorem dX9_lonelinessGone_50 : decode cX9_lonelinessGone 50 = .ok (.invokevirtual 142, 3) := by decide +kernel
theorem dX9_lonelinessGone_53 : decode cX9_lonelinessGone 53 = .ok (.iadd, 1) := by decide +kernel
theorem dX9_lonelinessGone_54 : decode cX9_lonelinessGone 54 = .ok (.istore_n 2, 1) := by decide +kernel
theorem dX9_lonelinessGone_55 : decode cX9_lonelinessGone 55 = .ok (.iinc 3 1, 3) := by decide +kernel
theorem dX9_lonelinessGone_58 : decode cX9_lonelinessGone 58 = .ok (.goto (-54), 3) := by decide +kernel
theorem dX9_lonelinessGone_61 : decode cX9_lonelinessGone 61 = .ok (.iload_n 2, 1) := by decide +kernel
theorem dX9_lonelinessGone_62 : decode cX9_lonelinessGone 62 = .ok (.ireturn, 1) := by decide +kernel
theorem dX9_lunch_0 : decode cX9_lunch 0 = .ok (.aload_n 0, 1) := by decide +kernel
theorem dX9_lunch_1 : decode cX9_lunch 1 = .ok (.iload_n 1, 1) := by decide +kernel
theorem dX9_lunch_2 : decode cX9_lunch 2 = .ok (.iload_n 2, 1) := by decide +kernel
theorem dX9_lunch_3 : decode cX9_lunch 3 = .ok (.invokevirtual 205, 3) := by decide +kernel
theorem dX9_lunch_6 : decode cX9_lunch 6 = .ok (.ifCond .eq 34, 3) := by decide +kernel
theorem dX9_lunch_9 : decode cX9_lunch 9 = .ok (.aload_n 0, 1) := by decide +kernel
theorem dX9_lunch_10 : decode cX9_lunch 10 = .ok (.getfield 58, 3) := by decide +kernel
theorem dX9_lunch_13 : decode cX9_lunch 13 = .ok (.getfield 209, 3) := by decide +kernel
theorem dX9_lunch_16 : decode cX9_lunch 16 = .ok (.iconst 1, 1) := by decide +kernel
theorem dX9_lunch_17 : decode cX9_lunch 17 = .ok (.if_icmp .lt 23, 3) := by decide +kernel
theorem dX9_lunch_20 : decode cX9_lunch 20 = .ok (.aload_n 0, 1) := by decide +kernel
theorem dX9_lunch_21 : decode cX9_lunch 21 = .ok (.getfield 58, 3) := by decide +kernel
theorem dX9_lunch_24 : decode cX9_lunch 24 = .ok (.iload_n 1, 1) := by decide +kernel
theorem dX9_lunch_25 : decode cX9_lunch 25 = .ok (.invokevirtual 142, 3) := by decide +kernel
theorem dX9_lunch_28 : decode cX9_lunch 28 = .ok (.aload_n 0, 1) := by decide +kernel
theorem dX9_lunch_29 : decode cX9_lunch 29 = .ok (.getfield 58, 3) := by decide +kernel
theorem dX9_lunch_32 : decode cX9_lunch 32 = .ok (.iload_n 2, 1) := by decide +kernel
theorem dX9_lunch_33 : decode cX9_lunch 33 = .ok (.invokevirtual 142, 3) := by decide +kernel
theorem dX9_lunch_36 : decode cX9_lunch 36 = .ok (.iadd, 1) := by decide +kernel
theorem dX9_lunch_37 : decode cX9_lunch 37 = .ok (.ifCond .ne 5, 3) := by decide +kernel
theorem dX9_lunch_40 : decode cX9_lunch 40 = .ok (.iconst (-1), 1) := by decide +kernel
theorem dX9_lunch_41 : decode cX9_lunch 41 = .ok (.ireturn, 1) := by decide +kernel
theorem dX9_lunch_42 : decode cX9_lunch 42 = .ok (.aload_n 0, 1) := by decide +kernel
theorem dX9_lunch_43 : decode cX9_lunch 43 = .ok (.getfield 75, 3) := by decide +kernel
theorem dX9_lunch_46 : decode cX9_lunch 46 = .ok (.aload_n 0, 1) := by decide +kernel
theorem dX9_lunch_47 : decode cX9_lunch 47 = .ok (.getfield 58, 3) := by decide +kernel
theorem dX9_lunch_50 : decode cX9_lunch 50 = .ok (.invokevirtual 173, 3) := by decide +kernel
theorem dX9_lunch_53 : decode cX9_lunch 53 = .ok (.aload_n 0, 1) := by decide +kernel
theorem dX9_lunch_54 : decode cX9_lunch 54 = .ok (.getfield 75, 3) := by decide +kernel
theorem dX9_lunch_57 : decode cX9_lunch 57 = .ok (.invokevirtual 181, 3) := by decide +kernel
theorem dX9_lunch_60 : decode cX9_lunch 60 = .ok (.aload_n 0, 1) := by decide +kernel
theorem dX9_lunch_61 : decode cX9_lunch 61 = .ok (.getfield 58, 3) := by decide +kernel
theorem dX9_lunch_64 : decode cX9_lunch 64 = .ok (.dup, 1) := by decide +kernel
theorem dX9_lunch_65 : decode cX9_lunch 65 = .ok (.getfield 209, 3) := by decide +kernel
theorem dX9_lunch_68 : decode cX9_lunch 68 = .ok (.iconst 1, 1) := by decide +kernel
theorem dX9_lunch_69 : decode cX9_lunch 69 = .ok (.isub, 1) := by decide +kernel
theorem dX9_lunch_70 : decode cX9_lunch 70 = .ok (.putfield 209, 3) := by decide +kernel
theorem dX9_lunch_73 : decode cX9_lunch 73 = .ok (.aload_n 0, 1) := by decide +kernel
theorem dX9_lunch_74 : decode cX9_lunch 74 = .ok (.getfield 58, 3) := by decide +kernel
theorem dX9_lunch_77 : decode cX9_lunch 77 = .ok (.iload_n 1, 1) := by decide +kernel
theorem dX9_lunch_78 : decode cX9_lunch 78 = .ok (.iconst 2, 1) := by decide +kernel
theorem dX9_lunch_79 : decode cX9_lunch 79 = .ok (.invokevirtual 212, 3) := by decide +kernel
theorem dX9_lunch_82 : decode cX9_lunch 82 = .ok (.aload_n 0, 1) := by decide +kernel
theorem dX9_lunch_83 : decode cX9_lunch 83 = .ok (.getfield 58, 3) := by decide +kernel
theorem dX9_lunch_86 : decode cX9_lunch 86 = .ok (.iload_n 2, 1) := by decide +kernel
theorem dX9_lunch_87 : decode cX9_lunch 87 = .ok (.iconst 2, 1) := by decide +kernel
theorem dX9_lunch_88 : decode cX9_lunch 88 = .ok (.invokevirtual 212, 3) := by decide +kernel
theorem dX9_lunch_91 : decode cX9_lunch 91 = .ok (.aload_n 0, 1) := by decide +kernel
theorem dX9_lunch_92 : decode cX9_lunch 92 = .ok (.getfield 58, 3) := by decide +kernel
theorem dX9_lunch_95 : decode cX9_lunch 95 = .ok (.iload_n 1, 1) := by decide +kernel
theorem dX9_lunch_96 : decode cX9_lunch 96 = .ok (.invokevirtual 142, 3) := by decide +kernel
theorem dX9_lunch_99 : decode cX9_lunch 99 = .ok (.ireturn, 1) := by decide +kernel
theorem dX9_matched_0 : decode cX9_matched 0 = .ok (.aload_n 0, 1) := by decide +kernel
theorem dX9_matched_1 : decode cX9_matched 1 = .ok (.invokevirtual 223, 3) := by decide +kernel
theorem dX9_matched_4 : decode cX9_matched 4 = .ok (.ifCond .eq 12, 3) := by decide +kernel
theorem dX9_matched_7 : decode cX9_matched 7 = .ok (.iload_n 1, 1) := by decide +kernel
theorem dX9_matched_8 : decode cX9_matched 8 = .ok (.ifCond .lt 8, 3) := by decide +kernel
theorem dX9_matched_11 : decode cX9_matched 11 = .ok (.iload_n 1, 1) := by decide +kernel
theorem dX9_matched_12 : decode cX9_matched 12 = .ok (.iconst 1, 1) := by decide +kernel
theorem dX9_matched_13 : decode cX9_matched 13 = .ok (.if_icmp .le 5, 3) := by decide +kernel
theorem dX9_matched_16 : decode cX9_matched 16 = .ok (.iconst (-1), 1) := by decide +kernel
theorem dX9_matched_17 : decode cX9_matched 17 = .ok (.ireturn, 1) := by decide +kernel
theorem dX9_matched_18 : decode cX9_matched 18 = .ok (.iconst (-1), 1) := by decide +kernel
theorem dX9_matched_19 : decode cX9_matched 19 = .ok (.istore_n 2, 1) := by decide +kernel
theorem dX9_matched_20 : decode cX9_matched 20 = .ok (.iconst (-1), 1) := by decide +kernel
theorem dX9_matched_21 : decode cX9_matched 21 = .ok (.istore_n 3, 1) := by decide +kernel
theorem dX9_matched_22 : decode cX9_matched 22 = .ok (.iconst 0, 1) := by decide +kernel
theorem dX9_matched_23 : decode cX9_matched 23 = .ok (.istore 4, 2) := by decide +kernel
theorem dX9_matched_25 : decode cX9_matched 25 = .ok (.iload 4, 2) := by decide +kernel
theorem dX9_matched_27 : decode cX9_matched 27 = .ok (.aload_n 0, 1) := by decide +kernel
theorem dX9_matched_28 : decode cX9_matched 28 = .ok (.getfield 96, 3) := by decide +kernel
theorem dX9_matched_31 : decode cX9_matched 31 = .ok (.getfield 305, 3) := by decide +kernel
theorem dX9_matched_34 : decode cX9_matched 34 = .ok (.if_icmp .ge 43, 3) := by decide +kernel
theorem dX9_matched_37 : decode cX9_matched 37 = .ok (.aload_n 0, 1) := by decide +kernel
theorem dX9_matched_38 : decode cX9_matched 38 = .ok (.aload_n 0, 1) := by decide +kernel
theorem dX9_matched_39 : decode cX9_matched 39 = .ok (.getfield 96, 3) := by decide +kernel
theorem dX9_matched_42 : decode cX9_matched 42 = .ok (.iload 4, 2) := by decide +kernel
theorem dX9_matched_44 : decode cX9_matched 44 = .ok (.invokevirtual 308, 3) := by decide +kernel
theorem dX9_matched_47 : decode cX9_matched 47 = .ok (.invokevirtual 312, 3) := by decide +kernel
theorem dX9_matched_50 : decode cX9_matched 50 = .ok (.istore 5, 2) := by decide +kernel
theorem dX9_matched_52 : decode cX9_matched 52 = .ok (.iload 5, 2) := by decide +kernel
theorem dX9_matched_54 : decode cX9_matched 54 = .ok (.iload_n 3, 1) := by decide +kernel
theorem dX9_matched_55 : decode cX9_matched 55 = .ok (.if_icmp .le 16, 3) := by decide +kernel
theorem dX9_matched_58 : decode cX9_matched 58 = .ok (.iload 5, 2) := by decide +kernel
theorem dX9_matched_60 : decode cX9_matched 60 = .ok (.istore_n 3, 1) := by decide +kernel
theorem dX9_matched_61 : decode cX9_matched 61 = .ok (.aload_n 0, 1) := by decide +kernel
theorem dX9_matched_62 : decode cX9_matched 62 = .ok (.getfield 96, 3) := by decide +kernel
theorem dX9_matched_65 : decode cX9_matched 65 = .ok (.iload 4, 2) := by decide +kernel
theorem dX9_matched_67 : decode cX9_matched 67 = .ok (.invokevirtual 316, 3) := by decide +kernel
theorem dX9_matched_70 : decode cX9_matched 70 = .ok (.istore_n 2, 1) := by decide +kernel
theorem dX9_matched_71 : decode cX9_matched 71 = .ok (.iinc 4 1, 3) := by decide +kernel
theorem dX9_matched_74 : decode cX9_matched 74 = .ok (.goto (-49), 3) := by decide +kernel
theorem dX9_matched_77 : decode cX9_matched 77 = .ok (.iload_n 1, 1) := by decide +kernel
theorem dX9_matched_78 : decode cX9_matched 78 = .ok (.ifCond .ne 7, 3) := by decide +kernel
theorem dX9_matched_81 : decode cX9_matched 81 = .ok (.iload_n 2, 1) := by decide +kernel
theorem dX9_matched_82 : decode cX9_matched 82 = .ok (.goto 4, 3) := by decide +kernel
theorem dX9_matched_85 : decode cX9_matched 85 = .ok (.iload_n 3, 1) := by decide +kernel
theorem dX9_matched_86 : decode cX9_matched 86 = .ok (.ireturn, 1) := by decide +kernel
theorem dX9_odds_0 : decode cX9_odds 0 = .ok (.aload_n 0, 1) := by decide +kernel
theorem dX9_odds_1 : decode cX9_odds 1 = .ok (.iload_n 1, 1) := by decide +kernel
theorem dX9_odds_2 : decode cX9_odds 2 = .ok (.invokevirtual 132, 3) := by decide +kernel
theorem dX9_odds_5 : decode cX9_odds 5 = .ok (.ifCond .eq 23, 3) := by decide +kernel
theorem dX9_odds_8 : decode cX9_odds 8 = .ok (.iload_n 2, 1) := by decide +kernel
theorem dX9_odds_9 : decode cX9_odds 9 = .ok (.ifCond .lt 19, 3) := by decide +kernel
theorem dX9_odds_12 : decode cX9_odds 12 = .ok (.iload_n 2, 1) := by decide +kernel
theorem dX9_odds_13 : decode cX9_odds 13 = .ok (.bipush 6, 2) := by decide +kernel
theorem dX9_odds_15 : decode cX9_odds 15 = .ok (.if_icmp .gt 13, 3) := by decide +kernel
theorem dX9_odds_18 : decode cX9_odds 18 = .ok (.iload_n 3, 1) := by decide +kernel
theorem dX9_odds_19 : decode cX9_odds 19 = .ok (.ifCond .lt 9, 3) := by decide +kernel
theorem dX9_odds_22 : decode cX9_odds 22 = .ok (.iload_n 3, 1) := by decide +kernel
theorem dX9_odds_23 : decode cX9_odds 23 = .ok (.bipush 100, 2) := by decide +kernel
theorem dX9_odds_25 : decode cX9_odds 25 = .ok (.if_icmp .le 5, 3) := by decide +kernel
theorem dX9_odds_28 : decode cX9_odds 28 = .ok (.iconst (-1), 1) := by decide +kernel
theorem dX9_odds_29 : decode cX9_odds 29 = .ok (.ireturn, 1) := by decide +kernel
theorem dX9_odds_30 : decode cX9_odds 30 = .ok (.aload_n 0, 1) := by decide +kernel
theorem dX9_odds_31 : decode cX9_odds 31 = .ok (.iload_n 2, 1) := by decide +kernel
theorem dX9_odds_32 : decode cX9_odds 32 = .ok (.invokevirtual 258, 3) := by decide +kernel
theorem dX9_odds_35 : decode cX9_odds 35 = .ok (.aload_n 0, 1) := by decide +kernel
theorem dX9_odds_36 : decode cX9_odds 36 = .ok (.getfield 58, 3) := by decide +kernel
theorem dX9_odds_39 : decode cX9_odds 39 = .ok (.invokevirtual 262, 3) := by decide +kernel
theorem dX9_odds_42 : decode cX9_odds 42 = .ok (.aload_n 0, 1) := by decide +kernel
theorem dX9_odds_43 : decode cX9_odds 43 = .ok (.iload_n 2, 1) := by decide +kernel
theorem dX9_odds_44 : decode cX9_odds 44 = .ok (.iload_n 1, 1) := by decide +kernel
theorem dX9_odds_45 : decode cX9_odds 45 = .ok (.iload_n 3, 1) := by decide +kernel
theorem dX9_odds_46 : decode cX9_odds 46 = .ok (.ldc2_w 350, 3) := by decide +kernel
theorem dX9_odds_49 : decode cX9_odds 49 = .ok (.invokevirtual 352, 3) := by decide +kernel
theorem dX9_odds_52 : decode cX9_odds 52 = .ok (.l2i, 1) := by decide +kernel
theorem dX9_odds_53 : decode cX9_odds 53 = .ok (.ireturn, 1) := by decide +kernel
theorem dX9_owed_0 : decode cX9_owed 0 = .ok (.aload_n 0, 1) := by decide +kernel
theorem dX9_owed_1 : decode cX9_owed 1 = .ok (.iload_n 1, 1) := by decide +kernel
theorem dX9_owed_2 : decode cX9_owed 2 = .ok (.iload_n 2, 1) := by decide +kernel
theorem dX9_owed_3 : decode cX9_owed 3 = .ok (.invokevirtual 205, 3) := by decide +kernel
theorem dX9_owed_6 : decode cX9_owed 6 = .ok (.ifCond .eq 15, 3) := by decide +kernel
theorem dX9_owed_9 : decode cX9_owed 9 = .ok (.aload_n 0, 1) := by decide +kernel
theorem dX9_owed_10 : decode cX9_owed 10 = .ok (.getfield 58, 3) := by decide +kernel
theorem dX9_owed_13 : decode cX9_owed 13 = .ok (.iload_n 1, 1) := by decide +kernel
theorem dX9_owed_14 : decode cX9_owed 14 = .ok (.iload_n 2, 1) := by decide +kernel
theorem dX9_owed_15 : decode cX9_owed 15 = .ok (.invokevirtual 184, 3) := by decide +kernel
theorem dX9_owed_18 : decode cX9_owed 18 = .ok (.goto 4, 3) := by decide +kernel
theorem dX9_owed_21 : decode cX9_owed 21 = .ok (.iconst (-1), 1) := by decide +kernel
theorem dX9_owed_22 : decode cX9_owed 22 = .ok (.ireturn, 1) := by decide +kernel
theorem dX9_pardonIn_0 : decode cX9_pardonIn 0 = .ok (.aload_n 0, 1) := by decide +kernel
theorem dX9_pardonIn_1 : decode cX9_pardonIn 1 = .ok (.iload_n 2, 1) := by decide +kernel
theorem dX9_pardonIn_2 : decode cX9_pardonIn 2 = .ok (.iload_n 3, 1) := by decide +kernel
theorem dX9_pardonIn_3 : decode cX9_pardonIn 3 = .ok (.invokevirtual 205, 3) := by decide +kernel
theorem dX9_pardonIn_6 : decode cX9_pardonIn 6 = .ok (.ifCond .eq 21, 3) := by decide +kernel
theorem dX9_pardonIn_9 : decode cX9_pardonIn 9 = .ok (.aload_n 1, 1) := by decide +kernel
theorem dX9_pardonIn_10 : decode cX9_pardonIn 10 = .ok (.iload_n 2, 1) := by decide +kernel
theorem dX9_pardonIn_11 : decode cX9_pardonIn 11 = .ok (.iload_n 3, 1) := by decide +kernel
theorem dX9_pardonIn_12 : decode cX9_pardonIn 12 = .ok (.invokevirtual 184, 3) := by decide +kernel
theorem dX9_pardonIn_15 : decode cX9_pardonIn 15 = .ok (.iconst 1, 1) := by decide +kernel
theorem dX9_pardonIn_16 : decode cX9_pardonIn 16 = .ok (.if_icmp .lt 11, 3) := by decide +kernel
theorem dX9_pardonIn_19 : decode cX9_pardonIn 19 = .ok (.aload_n 1, 1) := by decide +kernel
theorem dX9_pardonIn_20 : decode cX9_pardonIn 20 = .ok (.getfield 209, 3) := by decide +kernel
theorem dX9_pardonIn_23 : decode cX9_pardonIn 23 = .ok (.iconst 4, 1) := by decide +kernel
theorem dX9_pardonIn_24 : decode cX9_pardonIn 24 = .ok (.if_icmp .ge 5, 3) := by decide +kernel
theorem dX9_pardonIn_27 : decode cX9_pardonIn 27 = .ok (.iconst 0, 1) := by decide +kernel
theorem dX9_pardonIn_28 : decode cX9_pardonIn 28 = .ok (.ireturn, 1) := by decide +kernel
theorem dX9_pardonIn_29 : decode cX9_pardonIn 29 = .ok (.aload_n 1, 1) := by decide +kernel
theorem dX9_pardonIn_30 : decode cX9_pardonIn 30 = .ok (.dup, 1) := by decide +kernel
theorem dX9_pardonIn_31 : decode cX9_pardonIn 31 = .ok (.getfield 209, 3) := by decide +kernel
theorem dX9_pardonIn_34 : decode cX9_pardonIn 34 = .ok (.iconst 4, 1) := by decide +kernel
theorem dX9_pardonIn_35 : decode cX9_pardonIn 35 = .ok (.isub, 1) := by decide +kernel
theorem dX9_pardonIn_36 : decode cX9_pardonIn 36 = .ok (.putfield 209, 3) := by decide +kernel
theorem dX9_pardonIn_39 : decode cX9_pardonIn 39 = .ok (.aload_n 1, 1) := by decide +kernel
theorem dX9_pardonIn_40 : decode cX9_pardonIn 40 = .ok (.iload_n 2, 1) := by decide +kernel
theorem dX9_pardonIn_41 : decode cX9_pardonIn 41 = .ok (.iload_n 3, 1) := by decide +kernel
theorem dX9_pardonIn_42 : decode cX9_pardonIn 42 = .ok (.aload_n 1, 1) := by decide +kernel
theorem dX9_pardonIn_43 : decode cX9_pardonIn 43 = .ok (.iload_n 2, 1) := by decide +kernel
theorem dX9_pardonIn_44 : decode cX9_pardonIn 44 = .ok (.iload_n 3, 1) := by decide +kernel
theorem dX9_pardonIn_45 : decode cX9_pardonIn 45 = .ok (.invokevirtual 184, 3) := by decide +kernel
theorem dX9_pardonIn_48 : decode cX9_pardonIn 48 = .ok (.ineg, 1) := by decide +kernel
theorem dX9_pardonIn_49 : decode cX9_pardonIn 49 = .ok (.invokevirtual 418, 3) := by decide +kernel
theorem dX9_pardonIn_52 : decode cX9_pardonIn 52 = .ok (.iconst 1, 1) := by decide +kernel
theorem dX9_pardonIn_53 : decode cX9_pardonIn 53 = .ok (.ireturn, 1) := by decide +kernel
theorem dX9_pardon_0 : decode cX9_pardon 0 = .ok (.aload_n 0, 1) := by decide +kernel
theorem dX9_pardon_1 : decode cX9_pardon 1 = .ok (.getfield 58, 3) := by decide +kernel
theorem dX9_pardon_4 : decode cX9_pardon 4 = .ok (.iload_n 1, 1) := by decide +kernel
theorem dX9_pardon_5 : decode cX9_pardon 5 = .ok (.iload_n 2, 1) := by decide +kernel
theorem dX9_pardon_6 : decode cX9_pardon 6 = .ok (.invokevirtual 184, 3) := by decide +kernel
theorem dX9_pardon_9 : decode cX9_pardon 9 = .ok (.istore_n 3, 1) := by decide +kernel
theorem dX9_pardon_10 : decode cX9_pardon 10 = .ok (.aload_n 0, 1) := by decide +kernel
theorem dX9_pardon_11 : decode cX9_pardon 11 = .ok (.getfield 75, 3) := by decide +kernel
theorem dX9_pardon_14 : decode cX9_pardon 14 = .ok (.aload_n 0, 1) := by decide +kernel
theorem dX9_pardon_15 : decode cX9_pardon 15 = .ok (.getfield 58, 3) := by decide +kernel
theorem dX9_pardon_18 : decode cX9_pardon 18 = .ok (.invokevirtual 173, 3) := by decide +kernel
theorem dX9_pardon_21 : decode cX9_pardon 21 = .ok (.aload_n 0, 1) := by decide +kernel
theorem dX9_pardon_22 : decode cX9_pardon 22 = .ok (.aload_n 0, 1) := by decide +kernel
theorem dX9_pardon_23 : decode cX9_pardon 23 = .ok (.getfield 58, 3) := by decide +kernel
theorem dX9_pardon_26 : decode cX9_pardon 26 = .ok (.iload_n 1, 1) := by decide +kernel
theorem dX9_pardon_27 : decode cX9_pardon 27 = .ok (.iload_n 2, 1) := by decide +kernel
theorem dX9_pardon_28 : decode cX9_pardon 28 = .ok (.invokevirtual 202, 3) := by decide +kernel
theorem dX9_pardon_31 : decode cX9_pardon 31 = .ok (.ifCond .ne 5, 3) := by decide +kernel
theorem dX9_pardon_34 : decode cX9_pardon 34 = .ok (.iconst (-1), 1) := by decide +kernel
theorem dX9_pardon_35 : decode cX9_pardon 35 = .ok (.ireturn, 1) := by decide +kernel
theorem dX9_pardon_36 : decode cX9_pardon 36 = .ok (.aload_n 0, 1) := by decide +kernel
theorem dX9_pardon_37 : decode cX9_pardon 37 = .ok (.getfield 75, 3) := by decide +kernel
theorem dX9_pardon_40 : decode cX9_pardon 40 = .ok (.invokevirtual 181, 3) := by decide +kernel
theorem dX9_pardon_43 : decode cX9_pardon 43 = .ok (.iload_n 3, 1) := by decide +kernel
theorem dX9_pardon_44 : decode cX9_pardon 44 = .ok (.ireturn, 1) := by decide +kernel
theorem dX0_graveOf_0 : decode cX0_graveOf 0 = .ok (.aload_n 0, 1) := by decide +kernel
theorem dX0_graveOf_1 : decode cX0_graveOf 1 = .ok (.getfield 18, 3) := by decide +kernel
theorem dX0_graveOf_4 : decode cX0_graveOf 4 = .ok (.iconst 3, 1) := by decide +kernel
theorem dX0_graveOf_5 : decode cX0_graveOf 5 = .ok (.iload_n 1, 1) := by decide +kernel
theorem dX0_graveOf_6 : decode cX0_graveOf 6 = .ok (.imul, 1) := by decide +kernel
theorem dX0_graveOf_7 : decode cX0_graveOf 7 = .ok (.iconst 2, 1) := by decide +kernel
theorem dX0_graveOf_8 : decode cX0_graveOf 8 = .ok (.iadd, 1) := by decide +kernel
theorem dX0_graveOf_9 : decode cX0_graveOf 9 = .ok (.invokestatic 74, 3) := by decide +kernel
theorem dX0_graveOf_12 : decode cX0_graveOf 12 = .ok (.ireturn, 1) := by decide +kernel
theorem dX7_isSentenced_0 : decode cX7_isSentenced 0 = .ok (.aload_n 0, 1) := by decide +kernel
theorem dX7_isSentenced_1 : decode cX7_isSentenced 1 = .ok (.getfield 28, 3) := by decide +kernel
theorem dX7_isSentenced_4 : decode cX7_isSentenced 4 = .ok (.iload_n 1, 1) := by decide +kernel
theorem dX7_isSentenced_5 : decode cX7_isSentenced 5 = .ok (.invokestatic 68, 3) := by decide +kernel
theorem dX7_isSentenced_8 : decode cX7_isSentenced 8 = .ok (.ireturn, 1) := by decide +kernel
theorem dX9_sentenceIn_0 : decode cX9_sentenceIn 0 = .ok (.aload_n 0, 1) := by decide +kernel
theorem dX9_sentenceIn_1 : decode cX9_sentenceIn 1 = .ok (.iload_n 2, 1) := by decide +kernel
theorem dX9_sentenceIn_2 : decode cX9_sentenceIn 2 = .ok (.invokevirtual 154, 3) := by decide +kernel
theorem dX9_sentenceIn_5 : decode cX9_sentenceIn 5 = .ok (.ifCond .eq 11, 3) := by decide +kernel
theorem dX9_sentenceIn_8 : decode cX9_sentenceIn 8 = .ok (.aload_n 1, 1) := by decide +kernel
theorem dX9_sentenceIn_9 : decode cX9_sentenceIn 9 = .ok (.iload_n 2, 1) := by decide +kernel
theorem dX9_sentenceIn_10 : decode cX9_sentenceIn 10 = .ok (.invokevirtual 166, 3) := by decide +kernel
theorem dX9_sentenceIn_13 : decode cX9_sentenceIn 13 = .ok (.ifCond .eq 5, 3) := by decide +kernel
theorem dX9_sentenceIn_16 : decode cX9_sentenceIn 16 = .ok (.iconst 0, 1) := by decide +kernel
theorem dX9_sentenceIn_17 : decode cX9_sentenceIn 17 = .ok (.ireturn, 1) := by decide +kernel
theorem dX9_sentenceIn_18 : decode cX9_sentenceIn 18 = .ok (.aload_n 0, 1) := by decide +kernel
theorem dX9_sentenceIn_19 : decode cX9_sentenceIn 19 = .ok (.getfield 19, 3) := by decide +kernel
theorem dX9_sentenceIn_22 : decode cX9_sentenceIn 22 = .ok (.iload_n 2, 1) := by decide +kernel
theorem dX9_sentenceIn_23 : decode cX9_sentenceIn 23 = .ok (.invokevirtual 157, 3) := by decide +kernel
theorem dX9_sentenceIn_26 : decode cX9_sentenceIn 26 = .ok (.istore_n 3, 1) := by decide +kernel
theorem dX9_sentenceIn_27 : decode cX9_sentenceIn 27 = .ok (.aload_n 0, 1) := by decide +kernel
theorem dX9_sentenceIn_28 : decode cX9_sentenceIn 28 = .ok (.getfield 19, 3) := by decide +kernel
theorem dX9_sentenceIn_31 : decode cX9_sentenceIn 31 = .ok (.iload_n 2, 1) := by decide +kernel
theorem dX9_sentenceIn_32 : decode cX9_sentenceIn 32 = .ok (.invokevirtual 160, 3) := by decide +kernel
theorem dX9_sentenceIn_35 : decode cX9_sentenceIn 35 = .ok (.istore 4, 2) := by decide +kernel
theorem dX9_sentenceIn_37 : decode cX9_sentenceIn 37 = .ok (.aload_n 1, 1) := by decide +kernel
theorem dX9_sentenceIn_38 : decode cX9_sentenceIn 38 = .ok (.iload_n 3, 1) := by decide +kernel
theorem dX9_sentenceIn_39 : decode cX9_sentenceIn 39 = .ok (.iload 4, 2) := by decide +kernel
theorem dX9_sentenceIn_41 : decode cX9_sentenceIn 41 = .ok (.aload_n 0, 1) := by decide +kernel
theorem dX9_sentenceIn_42 : decode cX9_sentenceIn 42 = .ok (.aload_n 1, 1) := by decide +kernel
theorem dX9_sentenceIn_43 : decode cX9_sentenceIn 43 = .ok (.iload_n 3, 1) := by decide +kernel
theorem dX9_sentenceIn_44 : decode cX9_sentenceIn 44 = .ok (.iload 4, 2) := by decide +kernel
theorem dX9_sentenceIn_46 : decode cX9_sentenceIn 46 = .ok (.aload_n 0, 1) := by decide +kernel
theorem dX9_sentenceIn_47 : decode cX9_sentenceIn 47 = .ok (.getfield 19, 3) := by decide +kernel
theorem dX9_sentenceIn_50 : decode cX9_sentenceIn 50 = .ok (.iload_n 2, 1) := by decide +kernel
theorem dX9_sentenceIn_51 : decode cX9_sentenceIn 51 = .ok (.invokevirtual 163, 3) := by decide +kernel
theorem dX9_sentenceIn_54 : decode cX9_sentenceIn 54 = .ok (.invokevirtual 169, 3) := by decide +kernel
theorem dX9_sentenceIn_57 : decode cX9_sentenceIn 57 = .ok (.invokevirtual 418, 3) := by decide +kernel
theorem dX9_sentenceIn_60 : decode cX9_sentenceIn 60 = .ok (.aload_n 1, 1) := by decide +kernel
theorem dX9_sentenceIn_61 : decode cX9_sentenceIn 61 = .ok (.dup, 1) := by decide +kernel
theorem dX9_sentenceIn_62 : decode cX9_sentenceIn 62 = .ok (.getfield 362, 3) := by decide +kernel
theorem dX9_sentenceIn_65 : decode cX9_sentenceIn 65 = .ok (.iconst 1, 1) := by decide +kernel
theorem dX9_sentenceIn_66 : decode cX9_sentenceIn 66 = .ok (.iload_n 2, 1) := by decide +kernel
theorem dX9_sentenceIn_67 : decode cX9_sentenceIn 67 = .ok (.ishl, 1) := by decide +kernel
theorem dX9_sentenceIn_68 : decode cX9_sentenceIn 68 = .ok (.ior, 1) := by decide +kernel
theorem dX9_sentenceIn_69 : decode cX9_sentenceIn 69 = .ok (.putfield 362, 3) := by decide +kernel
theorem dX9_sentenceIn_72 : decode cX9_sentenceIn 72 = .ok (.iconst 1, 1) := by decide +kernel
theorem dX9_sentenceIn_73 : decode cX9_sentenceIn 73 = .ok (.ireturn, 1) := by decide +kernel
theorem dX6_part_0 : decode cX6_part 0 = .ok (.aload_n 0, 1) := by decide +kernel
theorem dX6_part_1 : decode cX6_part 1 = .ok (.getfield 9, 3) := by decide +kernel
theorem dX6_part_4 : decode cX6_part 4 = .ok (.iconst 3, 1) := by decide +kernel
theorem dX6_part_5 : decode cX6_part 5 = .ok (.iload_n 1, 1) := by decide +kernel
theorem dX6_part_6 : decode cX6_part 6 = .ok (.imul, 1) := by decide +kernel
theorem dX6_part_7 : decode cX6_part 7 = .ok (.iload_n 2, 1) := by decide +kernel
theorem dX6_part_8 : decode cX6_part 8 = .ok (.iadd, 1) := by decide +kernel
theorem dX6_part_9 : decode cX6_part 9 = .ok (.invokestatic 19, 3) := by decide +kernel
theorem dX6_part_12 : decode cX6_part 12 = .ok (.ireturn, 1) := by decide +kernel
theorem dX9_stepIn_0 : decode cX9_stepIn 0 = .ok (.aload_n 2, 1) := by decide +kernel
theorem dX9_stepIn_1 : decode cX9_stepIn 1 = .ok (.iload_n 3, 1) := by decide +kernel
theorem dX9_stepIn_2 : decode cX9_stepIn 2 = .ok (.iconst 1, 1) := by decide +kernel
theorem dX9_stepIn_3 : decode cX9_stepIn 3 = .ok (.invokevirtual 255, 3) := by decide +kernel
theorem dX9_stepIn_6 : decode cX9_stepIn 6 = .ok (.istore 4, 2) := by decide +kernel
theorem dX9_stepIn_8 : decode cX9_stepIn 8 = .ok (.aload_n 2, 1) := by decide +kernel
theorem dX9_stepIn_9 : decode cX9_stepIn 9 = .ok (.iload_n 3, 1) := by decide +kernel
theorem dX9_stepIn_10 : decode cX9_stepIn 10 = .ok (.iconst 2, 1) := by decide +kernel
theorem dX9_stepIn_11 : decode cX9_stepIn 11 = .ok (.invokevirtual 255, 3) := by decide +kernel
theorem dX9_stepIn_14 : decode cX9_stepIn 14 = .ok (.istore 5, 2) := by decide +kernel
theorem dX9_stepIn_16 : decode cX9_stepIn 16 = .ok (.aload_n 2, 1) := by decide +kernel
theorem dX9_stepIn_17 : decode cX9_stepIn 17 = .ok (.iload_n 3, 1) := by decide +kernel
theorem dX9_stepIn_18 : decode cX9_stepIn 18 = .ok (.iconst 0, 1) := by decide +kernel
theorem dX9_stepIn_19 : decode cX9_stepIn 19 = .ok (.invokevirtual 255, 3) := by decide +kernel
theorem dX9_stepIn_22 : decode cX9_stepIn 22 = .ok (.tableswitch 64 0 3 #[30, 38, 44, 54], 30) := by decide +kernel
theorem dX9_stepIn_52 : decode cX9_stepIn 52 = .ok (.aload_n 0, 1) := by decide +kernel
theorem dX9_stepIn_53 : decode cX9_stepIn 53 = .ok (.aload_n 1, 1) := by decide +kernel
theorem dX9_stepIn_54 : decode cX9_stepIn 54 = .ok (.iload 4, 2) := by decide +kernel
theorem dX9_stepIn_56 : decode cX9_stepIn 56 = .ok (.invokevirtual 177, 3) := by decide +kernel
theorem dX9_stepIn_59 : decode cX9_stepIn 59 = .ok (.ireturn, 1) := by decide +kernel
theorem dX9_stepIn_60 : decode cX9_stepIn 60 = .ok (.aload_n 0, 1) := by decide +kernel
theorem dX9_stepIn_61 : decode cX9_stepIn 61 = .ok (.aload_n 1, 1) := by decide +kernel
theorem dX9_stepIn_62 : decode cX9_stepIn 62 = .ok (.invokevirtual 188, 3) := by decide +kernel
theorem dX9_stepIn_65 : decode cX9_stepIn 65 = .ok (.ireturn, 1) := by decide +kernel
theorem dX9_stepIn_66 : decode cX9_stepIn 66 = .ok (.aload_n 0, 1) := by decide +kernel
theorem dX9_stepIn_67 : decode cX9_stepIn 67 = .ok (.aload_n 1, 1) := by decide +kernel
theorem dX9_stepIn_68 : decode cX9_stepIn 68 = .ok (.iload 4, 2) := by decide +kernel
theorem dX9_stepIn_70 : decode cX9_stepIn 70 = .ok (.iload 5, 2) := by decide +kernel
theorem dX9_stepIn_72 : decode cX9_stepIn 72 = .ok (.invokevirtual 198, 3) := by decide +kernel
theorem dX9_stepIn_75 : decode cX9_stepIn 75 = .ok (.ireturn, 1) := by decide +kernel
theorem dX9_stepIn_76 : decode cX9_stepIn 76 = .ok (.aload_n 0, 1) := by decide +kernel
theorem dX9_stepIn_77 : decode cX9_stepIn 77 = .ok (.aload_n 1, 1) := by decide +kernel
theorem dX9_stepIn_78 : decode cX9_stepIn 78 = .ok (.iload 4, 2) := by decide +kernel
theorem dX9_stepIn_80 : decode cX9_stepIn 80 = .ok (.iload 5, 2) := by decide +kernel
theorem dX9_stepIn_82 : decode cX9_stepIn 82 = .ok (.invokevirtual 202, 3) := by decide +kernel
theorem dX9_stepIn_85 : decode cX9_stepIn 85 = .ok (.ireturn, 1) := by decide +kernel
theorem dX9_stepIn_86 : decode cX9_stepIn 86 = .ok (.iconst 0, 1) := by decide +kernel
theorem dX9_stepIn_87 : decode cX9_stepIn 87 = .ok (.ireturn, 1) := by decide +kernel
theorem dX9_perform_0 : decode cX9_perform 0 = .ok (.aload_n 0, 1) := by decide +kernel
theorem dX9_perform_1 : decode cX9_perform 1 = .ok (.iload_n 1, 1) := by decide +kernel
theorem dX9_perform_2 : decode cX9_perform 2 = .ok (.invokevirtual 246, 3) := by decide +kernel
theorem dX9_perform_5 : decode cX9_perform 5 = .ok (.ifCond .eq 10, 3) := by decide +kernel
theorem dX9_perform_8 : decode cX9_perform 8 = .ok (.aload_n 0, 1) := by decide +kernel
theorem dX9_perform_9 : decode cX9_perform 9 = .ok (.invokevirtual 223, 3) := by decide +kernel
theorem dX9_perform_12 : decode cX9_perform 12 = .ok (.ifCond .ne 5, 3) := by decide +kernel
theorem dX9_perform_15 : decode cX9_perform 15 = .ok (.iconst (-1), 1) := by decide +kernel
theorem dX9_perform_16 : decode cX9_perform 16 = .ok (.ireturn, 1) := by decide +kernel
theorem dX9_perform_17 : decode cX9_perform 17 = .ok (.aload_n 0, 1) := by decide +kernel
theorem dX9_perform_18 : decode cX9_perform 18 = .ok (.iload_n 1, 1) := by decide +kernel
theorem dX9_perform_19 : decode cX9_perform 19 = .ok (.invokevirtual 250, 3) := by decide +kernel
theorem dX9_perform_22 : decode cX9_perform 22 = .ok (.astore_n 2, 1) := by decide +kernel
theorem dX9_perform_23 : decode cX9_perform 23 = .ok (.iconst 0, 1) := by decide +kernel
theorem dX9_perform_24 : decode cX9_perform 24 = .ok (.istore_n 3, 1) := by decide +kernel
theorem dX9_perform_25 : decode cX9_perform 25 = .ok (.iload_n 3, 1) := by decide +kernel
theorem dX9_perform_26 : decode cX9_perform 26 = .ok (.aload_n 2, 1) := by decide +kernel
theorem dX9_perform_27 : decode cX9_perform 27 = .ok (.getfield 254, 3) := by decide +kernel
theorem dX9_perform_30 : decode cX9_perform 30 = .ok (.if_icmp .ge 63, 3) := by decide +kernel
theorem dX9_perform_33 : decode cX9_perform 33 = .ok (.aload_n 0, 1) := by decide +kernel
theorem dX9_perform_34 : decode cX9_perform 34 = .ok (.getfield 75, 3) := by decide +kernel
theorem dX9_perform_37 : decode cX9_perform 37 = .ok (.aload_n 0, 1) := by decide +kernel
theorem dX9_perform_38 : decode cX9_perform 38 = .ok (.getfield 58, 3) := by decide +kernel
theorem dX9_perform_41 : decode cX9_perform 41 = .ok (.invokevirtual 173, 3) := by decide +kernel
theorem dX9_perform_44 : decode cX9_perform 44 = .ok (.aload_n 0, 1) := by decide +kernel
theorem dX9_perform_45 : decode cX9_perform 45 = .ok (.aload_n 0, 1) := by decide +kernel
theorem dX9_perform_46 : decode cX9_perform 46 = .ok (.getfield 58, 3) := by decide +kernel
theorem dX9_perform_49 : decode cX9_perform 49 = .ok (.aload_n 2, 1) := by decide +kernel
theorem dX9_perform_50 : decode cX9_perform 50 = .ok (.iload_n 3, 1) := by decide +kernel
theorem dX9_perform_51 : decode cX9_perform 51 = .ok (.invokevirtual 265, 3) := by decide +kernel
theorem dX9_perform_54 : decode cX9_perform 54 = .ok (.ifCond .ne 5, 3) := by decide +kernel
theorem dX9_perform_57 : decode cX9_perform 57 = .ok (.iload_n 3, 1) := by decide +kernel
theorem dX9_perform_58 : decode cX9_perform 58 = .ok (.ireturn, 1) := by decide +kernel
theorem dX9_perform_59 : decode cX9_perform 59 = .ok (.aload_n 0, 1) := by decide +kernel
theorem dX9_perform_60 : decode cX9_perform 60 = .ok (.getfield 75, 3) := by decide +kernel
theorem dX9_perform_63 : decode cX9_perform 63 = .ok (.invokevirtual 181, 3) := by decide +kernel
theorem dX9_perform_66 : decode cX9_perform 66 = .ok (.aload_n 2, 1) := by decide +kernel
theorem dX9_perform_67 : decode cX9_perform 67 = .ok (.iload_n 3, 1) := by decide +kernel
theorem dX9_perform_68 : decode cX9_perform 68 = .ok (.iconst 0, 1) := by decide +kernel
theorem dX9_perform_69 : decode cX9_perform 69 = .ok (.invokevirtual 255, 3) := by decide +kernel
theorem dX9_perform_72 : decode cX9_perform 72 = .ok (.iconst 1, 1) := by decide +kernel
theorem dX9_perform_73 : decode cX9_perform 73 = .ok (.if_icmp .ne 14, 3) := by decide +kernel
theorem dX9_perform_76 : decode cX9_perform 76 = .ok (.aload_n 0, 1) := by decide +kernel
theorem dX9_perform_77 : decode cX9_perform 77 = .ok (.getfield 82, 3) := by decide +kernel
theorem dX9_perform_80 : decode cX9_perform 80 = .ok (.aload_n 0, 1) := by decide +kernel
theorem dX9_perform_81 : decode cX9_perform 81 = .ok (.getfield 58, 3) := by decide +kernel
theorem dX9_perform_84 : decode cX9_perform 84 = .ok (.invokevirtual 192, 3) := by decide +kernel
theorem dX9_perform_87 : decode cX9_perform 87 = .ok (.iinc 3 1, 3) := by decide +kernel
theorem dX9_perform_90 : decode cX9_perform 90 = .ok (.goto (-65), 3) := by decide +kernel
theorem dX9_perform_93 : decode cX9_perform 93 = .ok (.aload_n 2, 1) := by decide +kernel
theorem dX9_perform_94 : decode cX9_perform 94 = .ok (.getfield 254, 3) := by decide +kernel
theorem dX9_perform_97 : decode cX9_perform 97 = .ok (.ireturn, 1) := by decide +kernel
theorem dX9_person_0 : decode cX9_person 0 = .ok (.aload_n 0, 1) := by decide +kernel
theorem dX9_person_1 : decode cX9_person 1 = .ok (.iload_n 1, 1) := by decide +kernel
theorem dX9_person_2 : decode cX9_person 2 = .ok (.invokevirtual 132, 3) := by decide +kernel
theorem dX9_person_5 : decode cX9_person 5 = .ok (.ifCond .eq 12, 3) := by decide +kernel
theorem dX9_person_8 : decode cX9_person 8 = .ok (.iload_n 2, 1) := by decide +kernel
theorem dX9_person_9 : decode cX9_person 9 = .ok (.ifCond .lt 8, 3) := by decide +kernel
theorem dX9_person_12 : decode cX9_person 12 = .ok (.iload_n 2, 1) := by decide +kernel
theorem dX9_person_13 : decode cX9_person 13 = .ok (.iconst 3, 1) := by decide +kernel
theorem dX9_person_14 : decode cX9_person 14 = .ok (.if_icmp .le 13, 3) := by decide +kernel
theorem dX9_person_17 : decode cX9_person 17 = .ok (.new 135, 3) := by decide +kernel
theorem dX9_person_20 : decode cX9_person 20 = .ok (.dup, 1) := by decide +kernel
theorem dX9_person_21 : decode cX9_person 21 = .ok (.ldc 137, 2) := by decide +kernel
theorem dX9_person_23 : decode cX9_person 23 = .ok (.invokespecial 139, 3) := by decide +kernel
theorem dX9_person_26 : decode cX9_person 26 = .ok (.athrow, 1) := by decide +kernel
theorem dX9_person_27 : decode cX9_person 27 = .ok (.iload_n 2, 1) := by decide +kernel
theorem dX9_person_28 : decode cX9_person 28 = .ok (.tableswitch 55 0 2 #[28, 37, 46], 28) := by decide +kernel
theorem dX9_person_56 : decode cX9_person 56 = .ok (.aload_n 0, 1) := by decide +kernel
theorem dX9_person_57 : decode cX9_person 57 = .ok (.getfield 58, 3) := by decide +kernel
theorem dX9_person_60 : decode cX9_person 60 = .ok (.iload_n 1, 1) := by decide +kernel
theorem dX9_person_61 : decode cX9_person 61 = .ok (.invokevirtual 142, 3) := by decide +kernel
theorem dX9_person_64 : decode cX9_person 64 = .ok (.ireturn, 1) := by decide +kernel
theorem dX9_person_65 : decode cX9_person 65 = .ok (.aload_n 0, 1) := by decide +kernel
theorem dX9_person_66 : decode cX9_person 66 = .ok (.getfield 58, 3) := by decide +kernel
theorem dX9_person_69 : decode cX9_person 69 = .ok (.iload_n 1, 1) := by decide +kernel
theorem dX9_person_70 : decode cX9_person 70 = .ok (.invokevirtual 145, 3) := by decide +kernel
theorem dX9_person_73 : decode cX9_person 73 = .ok (.ireturn, 1) := by decide +kernel
theorem dX9_person_74 : decode cX9_person 74 = .ok (.aload_n 0, 1) := by decide +kernel
theorem dX9_person_75 : decode cX9_person 75 = .ok (.getfield 19, 3) := by decide +kernel
theorem dX9_person_78 : decode cX9_person 78 = .ok (.iload_n 1, 1) := by decide +kernel
theorem dX9_person_79 : decode cX9_person 79 = .ok (.invokevirtual 148, 3) := by decide +kernel
theorem dX9_person_82 : decode cX9_person 82 = .ok (.ireturn, 1) := by decide +kernel
theorem dX9_person_83 : decode cX9_person 83 = .ok (.aload_n 0, 1) := by decide +kernel
theorem dX9_person_84 : decode cX9_person 84 = .ok (.getfield 58, 3) := by decide +kernel
theorem dX9_person_87 : decode cX9_person 87 = .ok (.iload_n 1, 1) := by decide +kernel
theorem dX9_person_88 : decode cX9_person 88 = .ok (.invokevirtual 151, 3) := by decide +kernel
theorem dX9_person_91 : decode cX9_person 91 = .ok (.ireturn, 1) := by decide +kernel
theorem dX9_rests_0 : decode cX9_rests 0 = .ok (.aload_n 0, 1) := by decide +kernel
theorem dX9_rests_1 : decode cX9_rests 1 = .ok (.iload_n 1, 1) := by decide +kernel
theorem dX9_rests_2 : decode cX9_rests 2 = .ok (.iload_n 2, 1) := by decide +kernel
theorem dX9_rests_3 : decode cX9_rests 3 = .ok (.invokevirtual 205, 3) := by decide +kernel
theorem dX9_rests_6 : decode cX9_rests 6 = .ok (.ifCond .ne 5, 3) := by decide +kernel
theorem dX9_rests_9 : decode cX9_rests 9 = .ok (.iconst (-1), 1) := by decide +kernel
theorem dX9_rests_10 : decode cX9_rests 10 = .ok (.ireturn, 1) := by decide +kernel
theorem dX9_rests_11 : decode cX9_rests 11 = .ok (.iconst 0, 1) := by decide +kernel
theorem dX9_rests_12 : decode cX9_rests 12 = .ok (.istore 4, 2) := by decide +kernel
theorem dX9_rests_14 : decode cX9_rests 14 = .ok (.iconst 0, 1) := by decide +kernel
theorem dX9_rests_15 : decode cX9_rests 15 = .ok (.istore 5, 2) := by decide +kernel
theorem dX9_rests_17 : decode cX9_rests 17 = .ok (.iload 5, 2) := by decide +kernel
theorem dX9_rests_19 : decode cX9_rests 19 = .ok (.aload_n 0, 1) := by decide +kernel
theorem dX9_rests_20 : decode cX9_rests 20 = .ok (.getfield 58, 3) := by decide +kernel
theorem dX9_rests_23 : decode cX9_rests 23 = .ok (.getfield 282, 3) := by decide +kernel
theorem dX9_rests_26 : decode cX9_rests 26 = .ok (.if_icmp .ge 74, 3) := by decide +kernel
theorem dX9_rests_29 : decode cX9_rests 29 = .ok (.iconst 0, 1) := by decide +kernel
theorem dX9_rests_30 : decode cX9_rests 30 = .ok (.istore 6, 2) := by decide +kernel
theorem dX9_rests_32 : decode cX9_rests 32 = .ok (.iload 6, 2) := by decide +kernel
theorem dX9_rests_34 : decode cX9_rests 34 = .ok (.aload_n 0, 1) := by decide +kernel
theorem dX9_rests_35 : decode cX9_rests 35 = .ok (.getfield 58, 3) := by decide +kernel
theorem dX9_rests_38 : decode cX9_rests 38 = .ok (.getfield 282, 3) := by decide +kernel
theorem dX9_rests_41 : decode cX9_rests 41 = .ok (.if_icmp .ge 53, 3) := by decide +kernel
theorem dX9_rests_44 : decode cX9_rests 44 = .ok (.aload_n 0, 1) := by decide +kernel
theorem dX9_rests_45 : decode cX9_rests 45 = .ok (.iload_n 1, 1) := by decide +kernel
theorem dX9_rests_46 : decode cX9_rests 46 = .ok (.iload_n 2, 1) := by decide +kernel
theorem dX9_rests_47 : decode cX9_rests 47 = .ok (.iload 5, 2) := by decide +kernel
theorem dX9_rests_49 : decode cX9_rests 49 = .ok (.iload 6, 2) := by decide +kernel
theorem dX9_rests_51 : decode cX9_rests 51 = .ok (.invokevirtual 346, 3) := by decide +kernel
theorem dX9_rests_54 : decode cX9_rests 54 = .ok (.ifCond .eq 34, 3) := by decide +kernel
theorem dX9_rests_57 : decode cX9_rests 57 = .ok (.aload_n 0, 1) := by decide +kernel
theorem dX9_rests_58 : decode cX9_rests 58 = .ok (.iload_n 2, 1) := by decide +kernel
theorem dX9_rests_59 : decode cX9_rests 59 = .ok (.iload_n 1, 1) := by decide +kernel
theorem dX9_rests_60 : decode cX9_rests 60 = .ok (.iload 6, 2) := by decide +kernel
theorem dX9_rests_62 : decode cX9_rests 62 = .ok (.iload 5, 2) := by decide +kernel
theorem dX9_rests_64 : decode cX9_rests 64 = .ok (.invokevirtual 346, 3) := by decide +kernel
theorem dX9_rests_67 : decode cX9_rests 67 = .ok (.ifCond .eq 21, 3) := by decide +kernel
theorem dX9_rests_70 : decode cX9_rests 70 = .ok (.iload 4, 2) := by decide +kernel
theorem dX9_rests_72 : decode cX9_rests 72 = .ok (.iload_n 3, 1) := by decide +kernel
theorem dX9_rests_73 : decode cX9_rests 73 = .ok (.if_icmp .ne 12, 3) := by decide +kernel
theorem dX9_rests_76 : decode cX9_rests 76 = .ok (.bipush 10, 2) := by decide +kernel
theorem dX9_rests_78 : decode cX9_rests 78 = .ok (.iload 5, 2) := by decide +kernel
theorem dX9_rests_80 : decode cX9_rests 80 = .ok (.imul, 1) := by decide +kernel
theorem dX9_rests_81 : decode cX9_rests 81 = .ok (.iload 6, 2) := by decide +kernel
theorem dX9_rests_83 : decode cX9_rests 83 = .ok (.iadd, 1) := by decide +kernel
theorem dX9_rests_84 : decode cX9_rests 84 = .ok (.ireturn, 1) := by decide +kernel
theorem dX9_rests_85 : decode cX9_rests 85 = .ok (.iinc 4 1, 3) := by decide +kernel
theorem dX9_rests_88 : decode cX9_rests 88 = .ok (.iinc 6 1, 3) := by decide +kernel
theorem dX9_rests_91 : decode cX9_rests 91 = .ok (.goto (-59), 3) := by decide +kernel
theorem dX9_rests_94 : decode cX9_rests 94 = .ok (.iinc 5 1, 3) := by decide +kernel
theorem dX9_rests_97 : decode cX9_rests 97 = .ok (.goto (-80), 3) := by decide +kernel
theorem dX9_rests_100 : decode cX9_rests 100 = .ok (.iload_n 3, 1) := by decide +kernel
theorem dX9_rests_101 : decode cX9_rests 101 = .ok (.iconst (-1), 1) := by decide +kernel
theorem dX9_rests_102 : decode cX9_rests 102 = .ok (.if_icmp .ne 8, 3) := by decide +kernel
theorem dX9_rests_105 : decode cX9_rests 105 = .ok (.iload 4, 2) := by decide +kernel
theorem dX9_rests_107 : decode cX9_rests 107 = .ok (.goto 4, 3) := by decide +kernel
theorem dX9_rests_110 : decode cX9_rests 110 = .ok (.iconst (-1), 1) := by decide +kernel
theorem dX9_rests_111 : decode cX9_rests 111 = .ok (.ireturn, 1) := by decide +kernel
theorem dX9_rowOf_0 : decode cX9_rowOf 0 = .ok (.iconst 0, 1) := by decide +kernel
theorem dX9_rowOf_1 : decode cX9_rowOf 1 = .ok (.istore_n 2, 1) := by decide +kernel
theorem dX9_rowOf_2 : decode cX9_rowOf 2 = .ok (.iconst 0, 1) := by decide +kernel
theorem dX9_rowOf_3 : decode cX9_rowOf 3 = .ok (.istore_n 3, 1) := by decide +kernel
theorem dX9_rowOf_4 : decode cX9_rowOf 4 = .ok (.iload_n 3, 1) := by decide +kernel
theorem dX9_rowOf_5 : decode cX9_rowOf 5 = .ok (.iload_n 1, 1) := by decide +kernel
theorem dX9_rowOf_6 : decode cX9_rowOf 6 = .ok (.if_icmp .ge 20, 3) := by decide +kernel
theorem dX9_rowOf_9 : decode cX9_rowOf 9 = .ok (.iload_n 2, 1) := by decide +kernel
theorem dX9_rowOf_10 : decode cX9_rowOf 10 = .ok (.bipush 10, 2) := by decide +kernel
theorem dX9_rowOf_12 : decode cX9_rowOf 12 = .ok (.imul, 1) := by decide +kernel
theorem dX9_rowOf_13 : decode cX9_rowOf 13 = .ok (.aload_n 0, 1) := by decide +kernel
theorem dX9_rowOf_14 : decode cX9_rowOf 14 = .ok (.iload_n 3, 1) := by decide +kernel
theorem dX9_rowOf_15 : decode cX9_rowOf 15 = .ok (.invokestatic 333, 3) := by decide +kernel
theorem dX9_rowOf_18 : decode cX9_rowOf 18 = .ok (.iadd, 1) := by decide +kernel
theorem dX9_rowOf_19 : decode cX9_rowOf 19 = .ok (.istore_n 2, 1) := by decide +kernel
theorem dX9_rowOf_20 : decode cX9_rowOf 20 = .ok (.iinc 3 1, 3) := by decide +kernel
theorem dX9_rowOf_23 : decode cX9_rowOf 23 = .ok (.goto (-19), 3) := by decide +kernel
theorem dX9_rowOf_26 : decode cX9_rowOf 26 = .ok (.iload_n 2, 1) := by decide +kernel
theorem dX9_rowOf_27 : decode cX9_rowOf 27 = .ok (.ireturn, 1) := by decide +kernel
theorem dX9_run_0 : decode cX9_run 0 = .ok (.aload_n 0, 1) := by decide +kernel
theorem dX9_run_1 : decode cX9_run 1 = .ok (.iload_n 1, 1) := by decide +kernel
theorem dX9_run_2 : decode cX9_run 2 = .ok (.invokevirtual 246, 3) := by decide +kernel
theorem dX9_run_5 : decode cX9_run 5 = .ok (.ifCond .eq 19, 3) := by decide +kernel
theorem dX9_run_8 : decode cX9_run 8 = .ok (.aload_n 0, 1) := by decide +kernel
theorem dX9_run_9 : decode cX9_run 9 = .ok (.invokevirtual 223, 3) := by decide +kernel
theorem dX9_run_12 : decode cX9_run 12 = .ok (.ifCond .eq 12, 3) := by decide +kernel
theorem dX9_run_15 : decode cX9_run 15 = .ok (.iload_n 2, 1) := by decide +kernel
theorem dX9_run_16 : decode cX9_run 16 = .ok (.ifCond .lt 8, 3) := by decide +kernel
theorem dX9_run_19 : decode cX9_run 19 = .ok (.iload_n 2, 1) := by decide +kernel
theorem dX9_run_20 : decode cX9_run 20 = .ok (.iconst 1, 1) := by decide +kernel
theorem dX9_run_21 : decode cX9_run 21 = .ok (.if_icmp .le 6, 3) := by decide +kernel
theorem dX9_run_24 : decode cX9_run 24 = .ok (.ldc 249, 2) := by decide +kernel
theorem dX9_run_26 : decode cX9_run 26 = .ok (.ireturn, 1) := by decide +kernel
theorem dX9_run_27 : decode cX9_run 27 = .ok (.aload_n 0, 1) := by decide +kernel
theorem dX9_run_28 : decode cX9_run 28 = .ok (.iload_n 1, 1) := by decide +kernel
theorem dX9_run_29 : decode cX9_run 29 = .ok (.invokevirtual 250, 3) := by decide +kernel
theorem dX9_run_32 : decode cX9_run 32 = .ok (.astore_n 3, 1) := by decide +kernel
theorem dX9_run_33 : decode cX9_run 33 = .ok (.aload_n 0, 1) := by decide +kernel
theorem dX9_run_34 : decode cX9_run 34 = .ok (.iconst 0, 1) := by decide +kernel
theorem dX9_run_35 : decode cX9_run 35 = .ok (.invokevirtual 258, 3) := by decide +kernel
theorem dX9_run_38 : decode cX9_run 38 = .ok (.astore 4, 2) := by decide +kernel
theorem dX9_run_40 : decode cX9_run 40 = .ok (.aload 4, 2) := by decide +kernel
theorem dX9_run_42 : decode cX9_run 42 = .ok (.aload_n 0, 1) := by decide +kernel
theorem dX9_run_43 : decode cX9_run 43 = .ok (.getfield 58, 3) := by decide +kernel
theorem dX9_run_46 : decode cX9_run 46 = .ok (.invokevirtual 262, 3) := by decide +kernel
theorem dX9_run_49 : decode cX9_run 49 = .ok (.iconst 0, 1) := by decide +kernel
theorem dX9_run_50 : decode cX9_run 50 = .ok (.istore 5, 2) := by decide +kernel
theorem dX9_run_52 : decode cX9_run 52 = .ok (.iconst 0, 1) := by decide +kernel
theorem dX9_run_53 : decode cX9_run 53 = .ok (.istore 6, 2) := by decide +kernel
theorem dX9_run_55 : decode cX9_run 55 = .ok (.iload 6, 2) := by decide +kernel
theorem dX9_run_57 : decode cX9_run 57 = .ok (.aload_n 3, 1) := by decide +kernel
theorem dX9_run_58 : decode cX9_run 58 = .ok (.getfield 254, 3) := by decide +kernel
theorem dX9_run_61 : decode cX9_run 61 = .ok (.if_icmp .ge 24, 3) := by decide +kernel
theorem dX9_run_64 : decode cX9_run 64 = .ok (.aload_n 0, 1) := by decide +kernel
theorem dX9_run_65 : decode cX9_run 65 = .ok (.aload 4, 2) := by decide +kernel
theorem dX9_run_67 : decode cX9_run 67 = .ok (.aload_n 3, 1) := by decide +kernel
theorem dX9_run_68 : decode cX9_run 68 = .ok (.iload 6, 2) := by decide +kernel
theorem dX9_run_70 : decode cX9_run 70 = .ok (.invokevirtual 265, 3) := by decide +kernel
theorem dX9_run_73 : decode cX9_run 73 = .ok (.ifCond .eq 12, 3) := by decide +kernel
theorem dX9_run_76 : decode cX9_run 76 = .ok (.iinc 5 1, 3) := by decide +kernel
theorem dX9_run_79 : decode cX9_run 79 = .ok (.iinc 6 1, 3) := by decide +kernel
theorem dX9_run_82 : decode cX9_run 82 = .ok (.goto (-27), 3) := by decide +kernel
theorem dX9_run_85 : decode cX9_run 85 = .ok (.iload_n 2, 1) := by decide +kernel
theorem dX9_run_86 : decode cX9_run 86 = .ok (.iconst 1, 1) := by decide +kernel
theorem dX9_run_87 : decode cX9_run 87 = .ok (.if_icmp .ne 17, 3) := by decide +kernel
theorem dX9_run_90 : decode cX9_run 90 = .ok (.aload 4, 2) := by decide +kernel
theorem dX9_run_92 : decode cX9_run 92 = .ok (.getfield 269, 3) := by decide +kernel
theorem dX9_run_95 : decode cX9_run 95 = .ok (.aload_n 0, 1) := by decide +kernel
theorem dX9_run_96 : decode cX9_run 96 = .ok (.getfield 58, 3) := by decide +kernel
theorem dX9_run_99 : decode cX9_run 99 = .ok (.getfield 269, 3) := by decide +kernel
theorem dX9_run_102 : decode cX9_run 102 = .ok (.isub, 1) := by decide +kernel
theorem dX9_run_103 : decode cX9_run 103 = .ok (.ireturn, 1) := by decide +kernel
theorem dX9_run_104 : decode cX9_run 104 = .ok (.iload 5, 2) := by decide +kernel
theorem dX9_run_106 : decode cX9_run 106 = .ok (.aload_n 3, 1) := by decide +kernel
theorem dX9_run_107 : decode cX9_run 107 = .ok (.getfield 254, 3) := by decide +kernel
theorem dX9_run_110 : decode cX9_run 110 = .ok (.if_icmp .ne 7, 3) := by decide +kernel
theorem dX9_run_113 : decode cX9_run 113 = .ok (.iconst (-1), 1) := by decide +kernel
theorem dX9_run_114 : decode cX9_run 114 = .ok (.goto 5, 3) := by decide +kernel
theorem dX9_run_117 : decode cX9_run 117 = .ok (.iload 5, 2) := by decide +kernel
theorem dX9_run_119 : decode cX9_run 119 = .ok (.ireturn, 1) := by decide +kernel
theorem dX9_sentence_0 : decode cX9_sentence 0 = .ok (.aload_n 0, 1) := by decide +kernel
theorem dX9_sentence_1 : decode cX9_sentence 1 = .ok (.getfield 75, 3) := by decide +kernel
theorem dX9_sentence_4 : decode cX9_sentence 4 = .ok (.aload_n 0, 1) := by decide +kernel
theorem dX9_sentence_5 : decode cX9_sentence 5 = .ok (.getfield 58, 3) := by decide +kernel
theorem dX9_sentence_8 : decode cX9_sentence 8 = .ok (.invokevirtual 173, 3) := by decide +kernel
theorem dX9_sentence_11 : decode cX9_sentence 11 = .ok (.aload_n 0, 1) := by decide +kernel
theorem dX9_sentence_12 : decode cX9_sentence 12 = .ok (.aload_n 0, 1) := by decide +kernel
theorem dX9_sentence_13 : decode cX9_sentence 13 = .ok (.getfield 58, 3) := by decide +kernel
theorem dX9_sentence_16 : decode cX9_sentence 16 = .ok (.iload_n 1, 1) := by decide +kernel
theorem dX9_sentence_17 : decode cX9_sentence 17 = .ok (.invokevirtual 177, 3) := by decide +kernel
theorem dX9_sentence_20 : decode cX9_sentence 20 = .ok (.ifCond .ne 5, 3) := by decide +kernel
theorem dX9_sentence_23 : decode cX9_sentence 23 = .ok (.iconst (-1), 1) := by decide +kernel
theorem dX9_sentence_24 : decode cX9_sentence 24 = .ok (.ireturn, 1) := by decide +kernel
theorem dX9_sentence_25 : decode cX9_sentence 25 = .ok (.aload_n 0, 1) := by decide +kernel
theorem dX9_sentence_26 : decode cX9_sentence 26 = .ok (.getfield 75, 3) := by decide +kernel
theorem dX9_sentence_29 : decode cX9_sentence 29 = .ok (.invokevirtual 181, 3) := by decide +kernel
theorem dX9_sentence_32 : decode cX9_sentence 32 = .ok (.aload_n 0, 1) := by decide +kernel
theorem dX9_sentence_33 : decode cX9_sentence 33 = .ok (.getfield 58, 3) := by decide +kernel
theorem dX9_sentence_36 : decode cX9_sentence 36 = .ok (.aload_n 0, 1) := by decide +kernel
theorem dX9_sentence_37 : decode cX9_sentence 37 = .ok (.getfield 19, 3) := by decide +kernel
theorem dX9_sentence_40 : decode cX9_sentence 40 = .ok (.iload_n 1, 1) := by decide +kernel
theorem dX9_sentence_41 : decode cX9_sentence 41 = .ok (.invokevirtual 157, 3) := by decide +kernel
theorem dX9_sentence_44 : decode cX9_sentence 44 = .ok (.aload_n 0, 1) := by decide +kernel
theorem dX9_sentence_45 : decode cX9_sentence 45 = .ok (.getfield 19, 3) := by decide +kernel
theorem dX9_sentence_48 : decode cX9_sentence 48 = .ok (.iload_n 1, 1) := by decide +kernel
theorem dX9_sentence_49 : decode cX9_sentence 49 = .ok (.invokevirtual 160, 3) := by decide +kernel
theorem dX9_sentence_52 : decode cX9_sentence 52 = .ok (.invokevirtual 184, 3) := by decide +kernel
theorem dX9_sentence_55 : decode cX9_sentence 55 = .ok (.ireturn, 1) := by decide +kernel
theorem dX9_served_0 : decode cX9_served 0 = .ok (.aload_n 0, 1) := by decide +kernel
theorem dX9_served_1 : decode cX9_served 1 = .ok (.invokevirtual 223, 3) := by decide +kernel
theorem dX9_served_4 : decode cX9_served 4 = .ok (.ifCond .ne 5, 3) := by decide +kernel
theorem dX9_served_7 : decode cX9_served 7 = .ok (.iconst (-1), 1) := by decide +kernel
theorem dX9_served_8 : decode cX9_served 8 = .ok (.ireturn, 1) := by decide +kernel
theorem dX9_served_9 : decode cX9_served 9 = .ok (.aload_n 0, 1) := by decide +kernel
theorem dX9_served_10 : decode cX9_served 10 = .ok (.invokevirtual 272, 3) := by decide +kernel
theorem dX9_served_13 : decode cX9_served 13 = .ok (.astore_n 1, 1) := by decide +kernel
theorem dX9_served_14 : decode cX9_served 14 = .ok (.iconst 0, 1) := by decide +kernel
theorem dX9_served_15 : decode cX9_served 15 = .ok (.istore_n 2, 1) := by decide +kernel
theorem dX9_served_16 : decode cX9_served 16 = .ok (.iload_n 2, 1) := by decide +kernel
theorem dX9_served_17 : decode cX9_served 17 = .ok (.bipush 99, 2) := by decide +kernel
theorem dX9_served_19 : decode cX9_served 19 = .ok (.if_icmp .gt 23, 3) := by decide +kernel
theorem dX9_served_22 : decode cX9_served 22 = .ok (.aload_n 1, 1) := by decide +kernel
theorem dX9_served_23 : decode cX9_served 23 = .ok (.invokevirtual 289, 3) := by decide +kernel
theorem dX9_served_26 : decode cX9_served 26 = .ok (.ifCond .ne 5, 3) := by decide +kernel
theorem dX9_served_29 : decode cX9_served 29 = .ok (.iload_n 2, 1) := by decide +kernel
theorem dX9_served_30 : decode cX9_served 30 = .ok (.ireturn, 1) := by decide +kernel
theorem dX9_served_31 : decode cX9_served 31 = .ok (.aload_n 1, 1) := by decide +kernel
theorem dX9_served_32 : decode cX9_served 32 = .ok (.iconst (-1), 1) := by decide +kernel
theorem dX9_served_33 : decode cX9_served 33 = .ok (.invokevirtual 233, 3) := by decide +kernel
theorem dX9_served_36 : decode cX9_served 36 = .ok (.iinc 2 1, 3) := by decide +kernel
theorem dX9_served_39 : decode cX9_served 39 = .ok (.goto (-23), 3) := by decide +kernel
theorem dX9_served_42 : decode cX9_served 42 = .ok (.iconst (-1), 1) := by decide +kernel
theorem dX9_served_43 : decode cX9_served 43 = .ok (.ireturn, 1) := by decide +kernel
theorem dX5_add_0 : decode cX5_add 0 = .ok (.aload_n 0, 1) := by decide +kernel
theorem dX5_add_1 : decode cX5_add 1 = .ok (.getfield 18, 3) := by decide +kernel
theorem dX5_add_4 : decode cX5_add 4 = .ok (.bipush 76, 2) := by decide +kernel
theorem dX5_add_6 : decode cX5_add 6 = .ok (.if_icmp .ge 35, 3) := by decide +kernel
theorem dX5_add_9 : decode cX5_add 9 = .ok (.aload_n 0, 1) := by decide +kernel
theorem dX5_add_10 : decode cX5_add 10 = .ok (.getfield 9, 3) := by decide +kernel
theorem dX5_add_13 : decode cX5_add 13 = .ok (.aload_n 0, 1) := by decide +kernel
theorem dX5_add_14 : decode cX5_add 14 = .ok (.getfield 18, 3) := by decide +kernel
theorem dX5_add_17 : decode cX5_add 17 = .ok (.aload_n 0, 1) := by decide +kernel
theorem dX5_add_18 : decode cX5_add 18 = .ok (.getfield 15, 3) := by decide +kernel
theorem dX5_add_21 : decode cX5_add 21 = .ok (.aload_n 0, 1) := by decide +kernel
theorem dX5_add_22 : decode cX5_add 22 = .ok (.getfield 22, 3) := by decide +kernel
theorem dX5_add_25 : decode cX5_add 25 = .ok (.invokestatic 40, 3) := by decide +kernel
theorem dX5_add_28 : decode cX5_add 28 = .ok (.invokestatic 25, 3) := by decide +kernel
theorem dX5_add_31 : decode cX5_add 31 = .ok (.aload_n 0, 1) := by decide +kernel
theorem dX5_add_32 : decode cX5_add 32 = .ok (.dup, 1) := by decide +kernel
theorem dX5_add_33 : decode cX5_add 33 = .ok (.getfield 18, 3) := by decide +kernel
theorem dX5_add_36 : decode cX5_add 36 = .ok (.iconst 1, 1) := by decide +kernel
theorem dX5_add_37 : decode cX5_add 37 = .ok (.iadd, 1) := by decide +kernel
theorem dX5_add_38 : decode cX5_add 38 = .ok (.putfield 18, 3) := by decide +kernel
theorem dX5_add_41 : decode cX5_add 41 = .ok (.return_, 1) := by decide +kernel
