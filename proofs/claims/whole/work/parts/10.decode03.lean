theorem dX5_seatFrom_0 : decode cX5_seatFrom 0 = .ok (.iload_n 1, 1) := by decide +kernel
theorem dX5_seatFrom_1 : decode cX5_seatFrom 1 = .ok (.aload_n 0, 1) := by decide +kernel
theorem dX5_seatFrom_2 : decode cX5_seatFrom 2 = .ok (.getfield 22, 3) := by decide +kernel
theorem dX5_seatFrom_5 : decode cX5_seatFrom 5 = .ok (.if_icmp .ge 9, 3) := by decide +kernel
theorem dX5_seatFrom_8 : decode cX5_seatFrom 8 = .ok (.iload_n 1, 1) := by decide +kernel
theorem dX5_seatFrom_9 : decode cX5_seatFrom 9 = .ok (.bipush 6, 2) := by decide +kernel
theorem dX5_seatFrom_11 : decode cX5_seatFrom 11 = .ok (.if_icmp .lt 8, 3) := by decide +kernel
theorem dX5_seatFrom_14 : decode cX5_seatFrom 14 = .ok (.aload_n 0, 1) := by decide +kernel
theorem dX5_seatFrom_15 : decode cX5_seatFrom 15 = .ok (.invokevirtual 33, 3) := by decide +kernel
theorem dX5_seatFrom_18 : decode cX5_seatFrom 18 = .ok (.return_, 1) := by decide +kernel
theorem dX5_seatFrom_19 : decode cX5_seatFrom 19 = .ok (.aload_n 0, 1) := by decide +kernel
theorem dX5_seatFrom_20 : decode cX5_seatFrom 20 = .ok (.getfield 15, 3) := by decide +kernel
theorem dX5_seatFrom_23 : decode cX5_seatFrom 23 = .ok (.iload_n 1, 1) := by decide +kernel
theorem dX5_seatFrom_24 : decode cX5_seatFrom 24 = .ok (.invokestatic 36, 3) := by decide +kernel
theorem dX5_seatFrom_27 : decode cX5_seatFrom 27 = .ok (.iconst (-1), 1) := by decide +kernel
theorem dX5_seatFrom_28 : decode cX5_seatFrom 28 = .ok (.if_icmp .eq 11, 3) := by decide +kernel
theorem dX5_seatFrom_31 : decode cX5_seatFrom 31 = .ok (.aload_n 0, 1) := by decide +kernel
theorem dX5_seatFrom_32 : decode cX5_seatFrom 32 = .ok (.iload_n 1, 1) := by decide +kernel
theorem dX5_seatFrom_33 : decode cX5_seatFrom 33 = .ok (.iconst 1, 1) := by decide +kernel
theorem dX5_seatFrom_34 : decode cX5_seatFrom 34 = .ok (.iadd, 1) := by decide +kernel
theorem dX5_seatFrom_35 : decode cX5_seatFrom 35 = .ok (.invokevirtual 29, 3) := by decide +kernel
theorem dX5_seatFrom_38 : decode cX5_seatFrom 38 = .ok (.return_, 1) := by decide +kernel
theorem dX5_seatFrom_39 : decode cX5_seatFrom 39 = .ok (.iload_n 1, 1) := by decide +kernel
theorem dX5_seatFrom_40 : decode cX5_seatFrom 40 = .ok (.iconst 1, 1) := by decide +kernel
theorem dX5_seatFrom_41 : decode cX5_seatFrom 41 = .ok (.iadd, 1) := by decide +kernel
theorem dX5_seatFrom_42 : decode cX5_seatFrom 42 = .ok (.istore_n 2, 1) := by decide +kernel
theorem dX5_seatFrom_43 : decode cX5_seatFrom 43 = .ok (.iload_n 2, 1) := by decide +kernel
theorem dX5_seatFrom_44 : decode cX5_seatFrom 44 = .ok (.aload_n 0, 1) := by decide +kernel
theorem dX5_seatFrom_45 : decode cX5_seatFrom 45 = .ok (.getfield 22, 3) := by decide +kernel
theorem dX5_seatFrom_48 : decode cX5_seatFrom 48 = .ok (.if_icmp .ge 55, 3) := by decide +kernel
theorem dX5_seatFrom_51 : decode cX5_seatFrom 51 = .ok (.aload_n 0, 1) := by decide +kernel
theorem dX5_seatFrom_52 : decode cX5_seatFrom 52 = .ok (.getfield 15, 3) := by decide +kernel
theorem dX5_seatFrom_55 : decode cX5_seatFrom 55 = .ok (.iload_n 2, 1) := by decide +kernel
theorem dX5_seatFrom_56 : decode cX5_seatFrom 56 = .ok (.invokestatic 36, 3) := by decide +kernel
theorem dX5_seatFrom_59 : decode cX5_seatFrom 59 = .ok (.iconst (-1), 1) := by decide +kernel
theorem dX5_seatFrom_60 : decode cX5_seatFrom 60 = .ok (.if_icmp .ne 37, 3) := by decide +kernel
theorem dX5_seatFrom_63 : decode cX5_seatFrom 63 = .ok (.aload_n 0, 1) := by decide +kernel
theorem dX5_seatFrom_64 : decode cX5_seatFrom 64 = .ok (.getfield 15, 3) := by decide +kernel
theorem dX5_seatFrom_67 : decode cX5_seatFrom 67 = .ok (.iload_n 1, 1) := by decide +kernel
theorem dX5_seatFrom_68 : decode cX5_seatFrom 68 = .ok (.iload_n 2, 1) := by decide +kernel
theorem dX5_seatFrom_69 : decode cX5_seatFrom 69 = .ok (.invokestatic 25, 3) := by decide +kernel
theorem dX5_seatFrom_72 : decode cX5_seatFrom 72 = .ok (.aload_n 0, 1) := by decide +kernel
theorem dX5_seatFrom_73 : decode cX5_seatFrom 73 = .ok (.getfield 15, 3) := by decide +kernel
theorem dX5_seatFrom_76 : decode cX5_seatFrom 76 = .ok (.iload_n 2, 1) := by decide +kernel
theorem dX5_seatFrom_77 : decode cX5_seatFrom 77 = .ok (.iload_n 1, 1) := by decide +kernel
theorem dX5_seatFrom_78 : decode cX5_seatFrom 78 = .ok (.invokestatic 25, 3) := by decide +kernel
theorem dX5_seatFrom_81 : decode cX5_seatFrom 81 = .ok (.aload_n 0, 1) := by decide +kernel
theorem dX5_seatFrom_82 : decode cX5_seatFrom 82 = .ok (.iload_n 1, 1) := by decide +kernel
theorem dX5_seatFrom_83 : decode cX5_seatFrom 83 = .ok (.iconst 1, 1) := by decide +kernel
theorem dX5_seatFrom_84 : decode cX5_seatFrom 84 = .ok (.iadd, 1) := by decide +kernel
theorem dX5_seatFrom_85 : decode cX5_seatFrom 85 = .ok (.invokevirtual 29, 3) := by decide +kernel
theorem dX5_seatFrom_88 : decode cX5_seatFrom 88 = .ok (.aload_n 0, 1) := by decide +kernel
theorem dX5_seatFrom_89 : decode cX5_seatFrom 89 = .ok (.getfield 15, 3) := by decide +kernel
theorem dX5_seatFrom_92 : decode cX5_seatFrom 92 = .ok (.iload_n 2, 1) := by decide +kernel
theorem dX5_seatFrom_93 : decode cX5_seatFrom 93 = .ok (.iconst (-1), 1) := by decide +kernel
theorem dX5_seatFrom_94 : decode cX5_seatFrom 94 = .ok (.invokestatic 25, 3) := by decide +kernel
theorem dX5_seatFrom_97 : decode cX5_seatFrom 97 = .ok (.iinc 2 1, 3) := by decide +kernel
theorem dX5_seatFrom_100 : decode cX5_seatFrom 100 = .ok (.goto (-57), 3) := by decide +kernel
theorem dX5_seatFrom_103 : decode cX5_seatFrom 103 = .ok (.aload_n 0, 1) := by decide +kernel
theorem dX5_seatFrom_104 : decode cX5_seatFrom 104 = .ok (.getfield 15, 3) := by decide +kernel
theorem dX5_seatFrom_107 : decode cX5_seatFrom 107 = .ok (.iload_n 1, 1) := by decide +kernel
theorem dX5_seatFrom_108 : decode cX5_seatFrom 108 = .ok (.bipush 9, 2) := by decide +kernel
theorem dX5_seatFrom_110 : decode cX5_seatFrom 110 = .ok (.invokestatic 25, 3) := by decide +kernel
theorem dX5_seatFrom_113 : decode cX5_seatFrom 113 = .ok (.aload_n 0, 1) := by decide +kernel
theorem dX5_seatFrom_114 : decode cX5_seatFrom 114 = .ok (.iload_n 1, 1) := by decide +kernel
theorem dX5_seatFrom_115 : decode cX5_seatFrom 115 = .ok (.iconst 1, 1) := by decide +kernel
theorem dX5_seatFrom_116 : decode cX5_seatFrom 116 = .ok (.iadd, 1) := by decide +kernel
theorem dX5_seatFrom_117 : decode cX5_seatFrom 117 = .ok (.invokevirtual 29, 3) := by decide +kernel
theorem dX5_seatFrom_120 : decode cX5_seatFrom 120 = .ok (.aload_n 0, 1) := by decide +kernel
theorem dX5_seatFrom_121 : decode cX5_seatFrom 121 = .ok (.getfield 15, 3) := by decide +kernel
theorem dX5_seatFrom_124 : decode cX5_seatFrom 124 = .ok (.iload_n 1, 1) := by decide +kernel
theorem dX5_seatFrom_125 : decode cX5_seatFrom 125 = .ok (.iconst (-1), 1) := by decide +kernel
theorem dX5_seatFrom_126 : decode cX5_seatFrom 126 = .ok (.invokestatic 25, 3) := by decide +kernel
theorem dX5_seatFrom_129 : decode cX5_seatFrom 129 = .ok (.return_, 1) := by decide +kernel
theorem dX5_make_0 : decode cX5_make 0 = .ok (.aload_n 0, 1) := by decide +kernel
theorem dX5_make_1 : decode cX5_make 1 = .ok (.iconst 0, 1) := by decide +kernel
theorem dX5_make_2 : decode cX5_make 2 = .ok (.putfield 18, 3) := by decide +kernel
theorem dX5_make_5 : decode cX5_make 5 = .ok (.aload_n 0, 1) := by decide +kernel
theorem dX5_make_6 : decode cX5_make 6 = .ok (.iload_n 1, 1) := by decide +kernel
theorem dX5_make_7 : decode cX5_make 7 = .ok (.putfield 22, 3) := by decide +kernel
theorem dX5_make_10 : decode cX5_make 10 = .ok (.iconst 0, 1) := by decide +kernel
theorem dX5_make_11 : decode cX5_make 11 = .ok (.istore_n 2, 1) := by decide +kernel
theorem dX5_make_12 : decode cX5_make 12 = .ok (.iload_n 2, 1) := by decide +kernel
theorem dX5_make_13 : decode cX5_make 13 = .ok (.bipush 6, 2) := by decide +kernel
theorem dX5_make_15 : decode cX5_make 15 = .ok (.if_icmp .ge 18, 3) := by decide +kernel
theorem dX5_make_18 : decode cX5_make 18 = .ok (.aload_n 0, 1) := by decide +kernel
theorem dX5_make_19 : decode cX5_make 19 = .ok (.getfield 15, 3) := by decide +kernel
theorem dX5_make_22 : decode cX5_make 22 = .ok (.iload_n 2, 1) := by decide +kernel
theorem dX5_make_23 : decode cX5_make 23 = .ok (.iconst (-1), 1) := by decide +kernel
theorem dX5_make_24 : decode cX5_make 24 = .ok (.invokestatic 25, 3) := by decide +kernel
theorem dX5_make_27 : decode cX5_make 27 = .ok (.iinc 2 1, 3) := by decide +kernel
theorem dX5_make_30 : decode cX5_make 30 = .ok (.goto (-18), 3) := by decide +kernel
theorem dX5_make_33 : decode cX5_make 33 = .ok (.aload_n 0, 1) := by decide +kernel
theorem dX5_make_34 : decode cX5_make 34 = .ok (.iconst 0, 1) := by decide +kernel
theorem dX5_make_35 : decode cX5_make 35 = .ok (.invokevirtual 29, 3) := by decide +kernel
theorem dX5_make_38 : decode cX5_make 38 = .ok (.return_, 1) := by decide +kernel
theorem dX0_boreOf_0 : decode cX0_boreOf 0 = .ok (.aload_n 0, 1) := by decide +kernel
theorem dX0_boreOf_1 : decode cX0_boreOf 1 = .ok (.getfield 15, 3) := by decide +kernel
theorem dX0_boreOf_4 : decode cX0_boreOf 4 = .ok (.iconst 3, 1) := by decide +kernel
theorem dX0_boreOf_5 : decode cX0_boreOf 5 = .ok (.iload_n 1, 1) := by decide +kernel
theorem dX0_boreOf_6 : decode cX0_boreOf 6 = .ok (.imul, 1) := by decide +kernel
theorem dX0_boreOf_7 : decode cX0_boreOf 7 = .ok (.iconst 1, 1) := by decide +kernel
theorem dX0_boreOf_8 : decode cX0_boreOf 8 = .ok (.iadd, 1) := by decide +kernel
theorem dX0_boreOf_9 : decode cX0_boreOf 9 = .ok (.invokestatic 74, 3) := by decide +kernel
theorem dX0_boreOf_12 : decode cX0_boreOf 12 = .ok (.ireturn, 1) := by decide +kernel
theorem dX0_coinsTold_0 : decode cX0_coinsTold 0 = .ok (.aload_n 0, 1) := by decide +kernel
theorem dX0_coinsTold_1 : decode cX0_coinsTold 1 = .ok (.getfield 9, 3) := by decide +kernel
theorem dX0_coinsTold_4 : decode cX0_coinsTold 4 = .ok (.iconst 1, 1) := by decide +kernel
theorem dX0_coinsTold_5 : decode cX0_coinsTold 5 = .ok (.invokestatic 74, 3) := by decide +kernel
theorem dX0_coinsTold_8 : decode cX0_coinsTold 8 = .ok (.ireturn, 1) := by decide +kernel
theorem dX0_lonelyOf_0 : decode cX0_lonelyOf 0 = .ok (.aload_n 0, 1) := by decide +kernel
theorem dX0_lonelyOf_1 : decode cX0_lonelyOf 1 = .ok (.getfield 15, 3) := by decide +kernel
theorem dX0_lonelyOf_4 : decode cX0_lonelyOf 4 = .ok (.iconst 3, 1) := by decide +kernel
theorem dX0_lonelyOf_5 : decode cX0_lonelyOf 5 = .ok (.iload_n 1, 1) := by decide +kernel
theorem dX0_lonelyOf_6 : decode cX0_lonelyOf 6 = .ok (.imul, 1) := by decide +kernel
theorem dX0_lonelyOf_7 : decode cX0_lonelyOf 7 = .ok (.invokestatic 74, 3) := by decide +kernel
theorem dX0_lonelyOf_10 : decode cX0_lonelyOf 10 = .ok (.ireturn, 1) := by decide +kernel
theorem dX7_begin_0 : decode cX7_begin 0 = .ok (.aload_n 0, 1) := by decide +kernel
theorem dX7_begin_1 : decode cX7_begin 1 = .ok (.aload_n 1, 1) := by decide +kernel
theorem dX7_begin_2 : decode cX7_begin 2 = .ok (.getfield 46, 3) := by decide +kernel
theorem dX7_begin_5 : decode cX7_begin 5 = .ok (.putfield 24, 3) := by decide +kernel
theorem dX7_begin_8 : decode cX7_begin 8 = .ok (.aload_n 0, 1) := by decide +kernel
theorem dX7_begin_9 : decode cX7_begin 9 = .ok (.iconst 0, 1) := by decide +kernel
theorem dX7_begin_10 : decode cX7_begin 10 = .ok (.putfield 28, 3) := by decide +kernel
theorem dX7_begin_13 : decode cX7_begin 13 = .ok (.aload_n 0, 1) := by decide +kernel
theorem dX7_begin_14 : decode cX7_begin 14 = .ok (.aload_n 1, 1) := by decide +kernel
theorem dX7_begin_15 : decode cX7_begin 15 = .ok (.invokevirtual 49, 3) := by decide +kernel
theorem dX7_begin_18 : decode cX7_begin 18 = .ok (.putfield 31, 3) := by decide +kernel
theorem dX7_begin_21 : decode cX7_begin 21 = .ok (.aload_n 0, 1) := by decide +kernel
theorem dX7_begin_22 : decode cX7_begin 22 = .ok (.iconst 0, 1) := by decide +kernel
theorem dX7_begin_23 : decode cX7_begin 23 = .ok (.putfield 34, 3) := by decide +kernel
theorem dX7_begin_26 : decode cX7_begin 26 = .ok (.aload_n 0, 1) := by decide +kernel
theorem dX7_begin_27 : decode cX7_begin 27 = .ok (.iconst 0, 1) := by decide +kernel
theorem dX7_begin_28 : decode cX7_begin 28 = .ok (.putfield 37, 3) := by decide +kernel
theorem dX7_begin_31 : decode cX7_begin 31 = .ok (.iconst 0, 1) := by decide +kernel
theorem dX7_begin_32 : decode cX7_begin 32 = .ok (.istore_n 2, 1) := by decide +kernel
theorem dX7_begin_33 : decode cX7_begin 33 = .ok (.iload_n 2, 1) := by decide +kernel
theorem dX7_begin_34 : decode cX7_begin 34 = .ok (.aload_n 0, 1) := by decide +kernel
theorem dX7_begin_35 : decode cX7_begin 35 = .ok (.getfield 9, 3) := by decide +kernel
theorem dX7_begin_38 : decode cX7_begin 38 = .ok (.arraylength, 1) := by decide +kernel
theorem dX7_begin_39 : decode cX7_begin 39 = .ok (.if_icmp .ge 18, 3) := by decide +kernel
theorem dX7_begin_42 : decode cX7_begin 42 = .ok (.aload_n 0, 1) := by decide +kernel
theorem dX7_begin_43 : decode cX7_begin 43 = .ok (.getfield 9, 3) := by decide +kernel
theorem dX7_begin_46 : decode cX7_begin 46 = .ok (.iload_n 2, 1) := by decide +kernel
theorem dX7_begin_47 : decode cX7_begin 47 = .ok (.iconst 0, 1) := by decide +kernel
theorem dX7_begin_48 : decode cX7_begin 48 = .ok (.invokestatic 53, 3) := by decide +kernel
theorem dX7_begin_51 : decode cX7_begin 51 = .ok (.iinc 2 1, 3) := by decide +kernel
theorem dX7_begin_54 : decode cX7_begin 54 = .ok (.goto (-21), 3) := by decide +kernel
theorem dX7_begin_57 : decode cX7_begin 57 = .ok (.iconst 0, 1) := by decide +kernel
theorem dX7_begin_58 : decode cX7_begin 58 = .ok (.istore_n 2, 1) := by decide +kernel
theorem dX7_begin_59 : decode cX7_begin 59 = .ok (.iload_n 2, 1) := by decide +kernel
theorem dX7_begin_60 : decode cX7_begin 60 = .ok (.aload_n 0, 1) := by decide +kernel
theorem dX7_begin_61 : decode cX7_begin 61 = .ok (.getfield 24, 3) := by decide +kernel
theorem dX7_begin_64 : decode cX7_begin 64 = .ok (.if_icmp .ge 35, 3) := by decide +kernel
theorem dX7_begin_67 : decode cX7_begin 67 = .ok (.aload_n 0, 1) := by decide +kernel
theorem dX7_begin_68 : decode cX7_begin 68 = .ok (.getfield 15, 3) := by decide +kernel
theorem dX7_begin_71 : decode cX7_begin 71 = .ok (.iload_n 2, 1) := by decide +kernel
theorem dX7_begin_72 : decode cX7_begin 72 = .ok (.aload_n 1, 1) := by decide +kernel
theorem dX7_begin_73 : decode cX7_begin 73 = .ok (.iload_n 2, 1) := by decide +kernel
theorem dX7_begin_74 : decode cX7_begin 74 = .ok (.invokevirtual 57, 3) := by decide +kernel
theorem dX7_begin_77 : decode cX7_begin 77 = .ok (.invokestatic 53, 3) := by decide +kernel
theorem dX7_begin_80 : decode cX7_begin 80 = .ok (.aload_n 0, 1) := by decide +kernel
theorem dX7_begin_81 : decode cX7_begin 81 = .ok (.getfield 18, 3) := by decide +kernel
theorem dX7_begin_84 : decode cX7_begin 84 = .ok (.iload_n 2, 1) := by decide +kernel
theorem dX7_begin_85 : decode cX7_begin 85 = .ok (.aload_n 1, 1) := by decide +kernel
theorem dX7_begin_86 : decode cX7_begin 86 = .ok (.iload_n 2, 1) := by decide +kernel
theorem dX7_begin_87 : decode cX7_begin 87 = .ok (.invokevirtual 61, 3) := by decide +kernel
theorem dX7_begin_90 : decode cX7_begin 90 = .ok (.invokestatic 53, 3) := by decide +kernel
theorem dX7_begin_93 : decode cX7_begin 93 = .ok (.iinc 2 1, 3) := by decide +kernel
theorem dX7_begin_96 : decode cX7_begin 96 = .ok (.goto (-37), 3) := by decide +kernel
theorem dX7_begin_99 : decode cX7_begin 99 = .ok (.return_, 1) := by decide +kernel
theorem dX9_settle_0 : decode cX9_settle 0 = .ok (.aload_n 0, 1) := by decide +kernel
theorem dX9_settle_1 : decode cX9_settle 1 = .ok (.getfield 19, 3) := by decide +kernel
theorem dX9_settle_4 : decode cX9_settle 4 = .ok (.astore_n 1, 1) := by decide +kernel
theorem dX9_settle_5 : decode cX9_settle 5 = .ok (.aload_n 0, 1) := by decide +kernel
theorem dX9_settle_6 : decode cX9_settle 6 = .ok (.aload_n 0, 1) := by decide +kernel
theorem dX9_settle_7 : decode cX9_settle 7 = .ok (.getfield 23, 3) := by decide +kernel
theorem dX9_settle_10 : decode cX9_settle 10 = .ok (.putfield 19, 3) := by decide +kernel
theorem dX9_settle_13 : decode cX9_settle 13 = .ok (.aload_n 0, 1) := by decide +kernel
theorem dX9_settle_14 : decode cX9_settle 14 = .ok (.aload_n 1, 1) := by decide +kernel
theorem dX9_settle_15 : decode cX9_settle 15 = .ok (.putfield 23, 3) := by decide +kernel
theorem dX9_settle_18 : decode cX9_settle 18 = .ok (.aload_n 0, 1) := by decide +kernel
theorem dX9_settle_19 : decode cX9_settle 19 = .ok (.getfield 54, 3) := by decide +kernel
theorem dX9_settle_22 : decode cX9_settle 22 = .ok (.aload_n 0, 1) := by decide +kernel
theorem dX9_settle_23 : decode cX9_settle 23 = .ok (.getfield 19, 3) := by decide +kernel
theorem dX9_settle_26 : decode cX9_settle 26 = .ok (.invokevirtual 405, 3) := by decide +kernel
theorem dX9_settle_29 : decode cX9_settle 29 = .ok (.aload_n 0, 1) := by decide +kernel
theorem dX9_settle_30 : decode cX9_settle 30 = .ok (.getfield 58, 3) := by decide +kernel
theorem dX9_settle_33 : decode cX9_settle 33 = .ok (.aload_n 0, 1) := by decide +kernel
theorem dX9_settle_34 : decode cX9_settle 34 = .ok (.getfield 54, 3) := by decide +kernel
theorem dX9_settle_37 : decode cX9_settle 37 = .ok (.invokevirtual 262, 3) := by decide +kernel
theorem dX9_settle_40 : decode cX9_settle 40 = .ok (.aload_n 0, 1) := by decide +kernel
theorem dX9_settle_41 : decode cX9_settle 41 = .ok (.getfield 75, 3) := by decide +kernel
theorem dX9_settle_44 : decode cX9_settle 44 = .ok (.invokevirtual 388, 3) := by decide +kernel
theorem dX9_settle_47 : decode cX9_settle 47 = .ok (.aload_n 0, 1) := by decide +kernel
theorem dX9_settle_48 : decode cX9_settle 48 = .ok (.iconst 0, 1) := by decide +kernel
theorem dX9_settle_49 : decode cX9_settle 49 = .ok (.putfield 64, 3) := by decide +kernel
theorem dX9_settle_52 : decode cX9_settle 52 = .ok (.aload_n 0, 1) := by decide +kernel
theorem dX9_settle_53 : decode cX9_settle 53 = .ok (.getfield 89, 3) := by decide +kernel
theorem dX9_settle_56 : decode cX9_settle 56 = .ok (.iconst 0, 1) := by decide +kernel
theorem dX9_settle_57 : decode cX9_settle 57 = .ok (.putfield 323, 3) := by decide +kernel
theorem dX9_settle_60 : decode cX9_settle 60 = .ok (.aload_n 0, 1) := by decide +kernel
theorem dX9_settle_61 : decode cX9_settle 61 = .ok (.getfield 96, 3) := by decide +kernel
theorem dX9_settle_64 : decode cX9_settle 64 = .ok (.aload_n 0, 1) := by decide +kernel
theorem dX9_settle_65 : decode cX9_settle 65 = .ok (.getfield 19, 3) := by decide +kernel
theorem dX9_settle_68 : decode cX9_settle 68 = .ok (.getfield 391, 3) := by decide +kernel
theorem dX9_settle_71 : decode cX9_settle 71 = .ok (.invokevirtual 409, 3) := by decide +kernel
theorem dX9_settle_74 : decode cX9_settle 74 = .ok (.aload_n 0, 1) := by decide +kernel
theorem dX9_settle_75 : decode cX9_settle 75 = .ok (.getfield 19, 3) := by decide +kernel
theorem dX9_settle_78 : decode cX9_settle 78 = .ok (.getfield 391, 3) := by decide +kernel
theorem dX9_settle_81 : decode cX9_settle 81 = .ok (.ireturn, 1) := by decide +kernel
theorem dX9_sin_0 : decode cX9_sin 0 = .ok (.iload_n 1, 1) := by decide +kernel
theorem dX9_sin_1 : decode cX9_sin 1 = .ok (.ifCond .lt 17, 3) := by decide +kernel
theorem dX9_sin_4 : decode cX9_sin 4 = .ok (.iload_n 1, 1) := by decide +kernel
theorem dX9_sin_5 : decode cX9_sin 5 = .ok (.bipush 9, 2) := by decide +kernel
theorem dX9_sin_7 : decode cX9_sin 7 = .ok (.if_icmp .gt 11, 3) := by decide +kernel
theorem dX9_sin_10 : decode cX9_sin 10 = .ok (.iload_n 1, 1) := by decide +kernel
theorem dX9_sin_11 : decode cX9_sin 11 = .ok (.aload_n 0, 1) := by decide +kernel
theorem dX9_sin_12 : decode cX9_sin 12 = .ok (.getfield 48, 3) := by decide +kernel
theorem dX9_sin_15 : decode cX9_sin 15 = .ok (.if_icmp .ne 5, 3) := by decide +kernel
theorem dX9_sin_18 : decode cX9_sin 18 = .ok (.iconst 0, 1) := by decide +kernel
theorem dX9_sin_19 : decode cX9_sin 19 = .ok (.ireturn, 1) := by decide +kernel
theorem dX9_sin_20 : decode cX9_sin 20 = .ok (.aload_n 0, 1) := by decide +kernel
theorem dX9_sin_21 : decode cX9_sin 21 = .ok (.iload_n 1, 1) := by decide +kernel
theorem dX9_sin_22 : decode cX9_sin 22 = .ok (.putfield 48, 3) := by decide +kernel
theorem dX9_sin_25 : decode cX9_sin 25 = .ok (.iconst 1, 1) := by decide +kernel
theorem dX9_sin_26 : decode cX9_sin 26 = .ok (.ireturn, 1) := by decide +kernel
theorem dX9_sinAhead_0 : decode cX9_sinAhead 0 = .ok (.aload_n 0, 1) := by decide +kernel
theorem dX9_sinAhead_1 : decode cX9_sinAhead 1 = .ok (.bipush 10, 2) := by decide +kernel
theorem dX9_sinAhead_3 : decode cX9_sinAhead 3 = .ok (.invokevirtual 422, 3) := by decide +kernel
theorem dX9_sinAhead_6 : decode cX9_sinAhead 6 = .ok (.aload_n 0, 1) := by decide +kernel
theorem dX9_sinAhead_7 : decode cX9_sinAhead 7 = .ok (.getfield 48, 3) := by decide +kernel
theorem dX9_sinAhead_10 : decode cX9_sinAhead 10 = .ok (.if_icmp .lt 4, 3) := by decide +kernel
theorem dX9_sinAhead_13 : decode cX9_sinAhead 13 = .ok (.return_, 1) := by decide +kernel
theorem dX9_sinAhead_14 : decode cX9_sinAhead 14 = .ok (.aload_n 0, 1) := by decide +kernel
theorem dX9_sinAhead_15 : decode cX9_sinAhead 15 = .ok (.aload_n 0, 1) := by decide +kernel
theorem dX9_sinAhead_16 : decode cX9_sinAhead 16 = .ok (.getfield 58, 3) := by decide +kernel
theorem dX9_sinAhead_19 : decode cX9_sinAhead 19 = .ok (.getfield 282, 3) := by decide +kernel
theorem dX9_sinAhead_22 : decode cX9_sinAhead 22 = .ok (.invokevirtual 422, 3) := by decide +kernel
theorem dX9_sinAhead_25 : decode cX9_sinAhead 25 = .ok (.istore_n 1, 1) := by decide +kernel
theorem dX9_sinAhead_26 : decode cX9_sinAhead 26 = .ok (.aload_n 0, 1) := by decide +kernel
theorem dX9_sinAhead_27 : decode cX9_sinAhead 27 = .ok (.aload_n 0, 1) := by decide +kernel
theorem dX9_sinAhead_28 : decode cX9_sinAhead 28 = .ok (.getfield 58, 3) := by decide +kernel
theorem dX9_sinAhead_31 : decode cX9_sinAhead 31 = .ok (.getfield 282, 3) := by decide +kernel
theorem dX9_sinAhead_34 : decode cX9_sinAhead 34 = .ok (.invokevirtual 422, 3) := by decide +kernel
theorem dX9_sinAhead_37 : decode cX9_sinAhead 37 = .ok (.istore_n 2, 1) := by decide +kernel
theorem dX9_sinAhead_38 : decode cX9_sinAhead 38 = .ok (.aload_n 0, 1) := by decide +kernel
theorem dX9_sinAhead_39 : decode cX9_sinAhead 39 = .ok (.bipush 9, 2) := by decide +kernel
theorem dX9_sinAhead_41 : decode cX9_sinAhead 41 = .ok (.invokevirtual 422, 3) := by decide +kernel
theorem dX9_sinAhead_44 : decode cX9_sinAhead 44 = .ok (.iconst 1, 1) := by decide +kernel
theorem dX9_sinAhead_45 : decode cX9_sinAhead 45 = .ok (.iadd, 1) := by decide +kernel
theorem dX9_sinAhead_46 : decode cX9_sinAhead 46 = .ok (.istore_n 3, 1) := by decide +kernel
theorem dX9_sinAhead_47 : decode cX9_sinAhead 47 = .ok (.iload_n 1, 1) := by decide +kernel
theorem dX9_sinAhead_48 : decode cX9_sinAhead 48 = .ok (.iload_n 2, 1) := by decide +kernel
theorem dX9_sinAhead_49 : decode cX9_sinAhead 49 = .ok (.if_icmp .eq 13, 3) := by decide +kernel
theorem dX9_sinAhead_52 : decode cX9_sinAhead 52 = .ok (.aload_n 0, 1) := by decide +kernel
theorem dX9_sinAhead_53 : decode cX9_sinAhead 53 = .ok (.getfield 58, 3) := by decide +kernel
theorem dX9_sinAhead_56 : decode cX9_sinAhead 56 = .ok (.iload_n 1, 1) := by decide +kernel
theorem dX9_sinAhead_57 : decode cX9_sinAhead 57 = .ok (.iload_n 2, 1) := by decide +kernel
theorem dX9_sinAhead_58 : decode cX9_sinAhead 58 = .ok (.iload_n 3, 1) := by decide +kernel
theorem dX9_sinAhead_59 : decode cX9_sinAhead 59 = .ok (.invokevirtual 418, 3) := by decide +kernel
theorem dX9_sinAhead_62 : decode cX9_sinAhead 62 = .ok (.return_, 1) := by decide +kernel
theorem dX9_sooner_0 : decode cX9_sooner 0 = .ok (.aload_n 0, 1) := by decide +kernel
theorem dX9_sooner_1 : decode cX9_sooner 1 = .ok (.invokevirtual 223, 3) := by decide +kernel
theorem dX9_sooner_4 : decode cX9_sooner 4 = .ok (.ifCond .ne 5, 3) := by decide +kernel
theorem dX9_sooner_7 : decode cX9_sooner 7 = .ok (.iconst (-1), 1) := by decide +kernel
theorem dX9_sooner_8 : decode cX9_sooner 8 = .ok (.ireturn, 1) := by decide +kernel
theorem dX9_sooner_9 : decode cX9_sooner 9 = .ok (.iconst 0, 1) := by decide +kernel
theorem dX9_sooner_10 : decode cX9_sooner 10 = .ok (.istore_n 1, 1) := by decide +kernel
theorem dX9_sooner_11 : decode cX9_sooner 11 = .ok (.iconst 0, 1) := by decide +kernel
theorem dX9_sooner_12 : decode cX9_sooner 12 = .ok (.istore_n 2, 1) := by decide +kernel
theorem dX9_sooner_13 : decode cX9_sooner 13 = .ok (.iload_n 2, 1) := by decide +kernel
theorem dX9_sooner_14 : decode cX9_sooner 14 = .ok (.aload_n 0, 1) := by decide +kernel
theorem dX9_sooner_15 : decode cX9_sooner 15 = .ok (.getfield 58, 3) := by decide +kernel
theorem dX9_sooner_18 : decode cX9_sooner 18 = .ok (.getfield 282, 3) := by decide +kernel
theorem dX9_sooner_21 : decode cX9_sooner 21 = .ok (.if_icmp .ge 22, 3) := by decide +kernel
theorem dX9_sooner_24 : decode cX9_sooner 24 = .ok (.iload_n 1, 1) := by decide +kernel
theorem dX9_sooner_25 : decode cX9_sooner 25 = .ok (.aload_n 0, 1) := by decide +kernel
theorem dX9_sooner_26 : decode cX9_sooner 26 = .ok (.getfield 58, 3) := by decide +kernel
theorem dX9_sooner_29 : decode cX9_sooner 29 = .ok (.iload_n 2, 1) := by decide +kernel
theorem dX9_sooner_30 : decode cX9_sooner 30 = .ok (.invokevirtual 151, 3) := by decide +kernel
theorem dX9_sooner_33 : decode cX9_sooner 33 = .ok (.invokestatic 292, 3) := by decide +kernel
theorem dX9_sooner_36 : decode cX9_sooner 36 = .ok (.istore_n 1, 1) := by decide +kernel
theorem dX9_sooner_37 : decode cX9_sooner 37 = .ok (.iinc 2 1, 3) := by decide +kernel
theorem dX9_sooner_40 : decode cX9_sooner 40 = .ok (.goto (-27), 3) := by decide +kernel
theorem dX9_sooner_43 : decode cX9_sooner 43 = .ok (.iconst 0, 1) := by decide +kernel
theorem dX9_sooner_44 : decode cX9_sooner 44 = .ok (.istore_n 2, 1) := by decide +kernel
theorem dX9_sooner_45 : decode cX9_sooner 45 = .ok (.iload_n 2, 1) := by decide +kernel
theorem dX9_sooner_46 : decode cX9_sooner 46 = .ok (.iconst 1, 1) := by decide +kernel
theorem dX9_sooner_47 : decode cX9_sooner 47 = .ok (.aload_n 0, 1) := by decide +kernel
theorem dX9_sooner_48 : decode cX9_sooner 48 = .ok (.getfield 58, 3) := by decide +kernel
theorem dX9_sooner_51 : decode cX9_sooner 51 = .ok (.getfield 282, 3) := by decide +kernel
theorem dX9_sooner_54 : decode cX9_sooner 54 = .ok (.ishl, 1) := by decide +kernel
theorem dX9_sooner_55 : decode cX9_sooner 55 = .ok (.if_icmp .ge 57, 3) := by decide +kernel
theorem dX9_sooner_58 : decode cX9_sooner 58 = .ok (.iload_n 2, 1) := by decide +kernel
theorem dX9_sooner_59 : decode cX9_sooner 59 = .ok (.invokestatic 297, 3) := by decide +kernel
theorem dX9_sooner_62 : decode cX9_sooner 62 = .ok (.istore_n 3, 1) := by decide +kernel
theorem dX9_sooner_63 : decode cX9_sooner 63 = .ok (.iload_n 3, 1) := by decide +kernel
theorem dX9_sooner_64 : decode cX9_sooner 64 = .ok (.iconst 3, 1) := by decide +kernel
theorem dX9_sooner_65 : decode cX9_sooner 65 = .ok (.if_icmp .ne 19, 3) := by decide +kernel
theorem dX9_sooner_68 : decode cX9_sooner 68 = .ok (.iload_n 1, 1) := by decide +kernel
theorem dX9_sooner_69 : decode cX9_sooner 69 = .ok (.aload_n 0, 1) := by decide +kernel
theorem dX9_sooner_70 : decode cX9_sooner 70 = .ok (.getfield 58, 3) := by decide +kernel
theorem dX9_sooner_73 : decode cX9_sooner 73 = .ok (.iload_n 2, 1) := by decide +kernel
theorem dX9_sooner_74 : decode cX9_sooner 74 = .ok (.invokevirtual 302, 3) := by decide +kernel
theorem dX9_sooner_77 : decode cX9_sooner 77 = .ok (.invokestatic 292, 3) := by decide +kernel
theorem dX9_sooner_80 : decode cX9_sooner 80 = .ok (.istore_n 1, 1) := by decide +kernel
theorem dX9_sooner_81 : decode cX9_sooner 81 = .ok (.goto 25, 3) := by decide +kernel
theorem dX9_sooner_84 : decode cX9_sooner 84 = .ok (.iload_n 3, 1) := by decide +kernel
theorem dX9_sooner_85 : decode cX9_sooner 85 = .ok (.iconst 5, 1) := by decide +kernel
theorem dX9_sooner_86 : decode cX9_sooner 86 = .ok (.if_icmp .ne 20, 3) := by decide +kernel
theorem dX9_sooner_89 : decode cX9_sooner 89 = .ok (.iload_n 1, 1) := by decide +kernel
theorem dX9_sooner_90 : decode cX9_sooner 90 = .ok (.aload_n 0, 1) := by decide +kernel
theorem dX9_sooner_91 : decode cX9_sooner 91 = .ok (.getfield 58, 3) := by decide +kernel
theorem dX9_sooner_94 : decode cX9_sooner 94 = .ok (.iload_n 2, 1) := by decide +kernel
theorem dX9_sooner_95 : decode cX9_sooner 95 = .ok (.invokevirtual 302, 3) := by decide +kernel
theorem dX9_sooner_98 : decode cX9_sooner 98 = .ok (.iconst 1, 1) := by decide +kernel
theorem dX9_sooner_99 : decode cX9_sooner 99 = .ok (.iadd, 1) := by decide +kernel
theorem dX9_sooner_100 : decode cX9_sooner 100 = .ok (.iconst 2, 1) := by decide +kernel
theorem dX9_sooner_101 : decode cX9_sooner 101 = .ok (.idiv, 1) := by decide +kernel
theorem dX9_sooner_102 : decode cX9_sooner 102 = .ok (.invokestatic 292, 3) := by decide +kernel
theorem dX9_sooner_105 : decode cX9_sooner 105 = .ok (.istore_n 1, 1) := by decide +kernel
theorem dX9_sooner_106 : decode cX9_sooner 106 = .ok (.iinc 2 1, 3) := by decide +kernel
theorem dX9_sooner_109 : decode cX9_sooner 109 = .ok (.goto (-64), 3) := by decide +kernel
theorem dX9_sooner_112 : decode cX9_sooner 112 = .ok (.iload_n 1, 1) := by decide +kernel
theorem dX9_sooner_113 : decode cX9_sooner 113 = .ok (.ireturn, 1) := by decide +kernel
theorem dX9_step_0 : decode cX9_step 0 = .ok (.aload_n 0, 1) := by decide +kernel
theorem dX9_step_1 : decode cX9_step 1 = .ok (.iload_n 1, 1) := by decide +kernel
theorem dX9_step_2 : decode cX9_step 2 = .ok (.invokevirtual 246, 3) := by decide +kernel
theorem dX9_step_5 : decode cX9_step 5 = .ok (.ifCond .ne 6, 3) := by decide +kernel
theorem dX9_step_8 : decode cX9_step 8 = .ok (.ldc 249, 2) := by decide +kernel
theorem dX9_step_10 : decode cX9_step 10 = .ok (.ireturn, 1) := by decide +kernel
theorem dX9_step_11 : decode cX9_step 11 = .ok (.aload_n 0, 1) := by decide +kernel
theorem dX9_step_12 : decode cX9_step 12 = .ok (.iload_n 1, 1) := by decide +kernel
theorem dX9_step_13 : decode cX9_step 13 = .ok (.invokevirtual 250, 3) := by decide +kernel
theorem dX9_step_16 : decode cX9_step 16 = .ok (.astore 4, 2) := by decide +kernel
theorem dX9_step_18 : decode cX9_step 18 = .ok (.iload_n 2, 1) := by decide +kernel
theorem dX9_step_19 : decode cX9_step 19 = .ok (.ifCond .lt 21, 3) := by decide +kernel
theorem dX9_step_22 : decode cX9_step 22 = .ok (.iload_n 2, 1) := by decide +kernel
theorem dX9_step_23 : decode cX9_step 23 = .ok (.aload 4, 2) := by decide +kernel
theorem dX9_step_25 : decode cX9_step 25 = .ok (.getfield 254, 3) := by decide +kernel
theorem dX9_step_28 : decode cX9_step 28 = .ok (.if_icmp .ge 12, 3) := by decide +kernel
theorem dX9_step_31 : decode cX9_step 31 = .ok (.iload_n 3, 1) := by decide +kernel
theorem dX9_step_32 : decode cX9_step 32 = .ok (.ifCond .lt 8, 3) := by decide +kernel
theorem dX9_step_35 : decode cX9_step 35 = .ok (.iload_n 3, 1) := by decide +kernel
theorem dX9_step_36 : decode cX9_step 36 = .ok (.iconst 2, 1) := by decide +kernel
theorem dX9_step_37 : decode cX9_step 37 = .ok (.if_icmp .le 6, 3) := by decide +kernel
theorem dX9_step_40 : decode cX9_step 40 = .ok (.ldc 249, 2) := by decide +kernel
theorem dX9_step_42 : decode cX9_step 42 = .ok (.ireturn, 1) := by decide +kernel
theorem dX9_step_43 : decode cX9_step 43 = .ok (.aload 4, 2) := by decide +kernel
theorem dX9_step_45 : decode cX9_step 45 = .ok (.iload_n 2, 1) := by decide +kernel
theorem dX9_step_46 : decode cX9_step 46 = .ok (.iload_n 3, 1) := by decide +kernel
theorem dX9_step_47 : decode cX9_step 47 = .ok (.invokevirtual 255, 3) := by decide +kernel
theorem dX9_step_50 : decode cX9_step 50 = .ok (.ireturn, 1) := by decide +kernel
theorem dX9_teach_0 : decode cX9_teach 0 = .ok (.aload_n 0, 1) := by decide +kernel
theorem dX9_teach_1 : decode cX9_teach 1 = .ok (.iload_n 1, 1) := by decide +kernel
theorem dX9_teach_2 : decode cX9_teach 2 = .ok (.invokevirtual 132, 3) := by decide +kernel
theorem dX9_teach_5 : decode cX9_teach 5 = .ok (.ifCond .eq 25, 3) := by decide +kernel
theorem dX9_teach_8 : decode cX9_teach 8 = .ok (.aload_n 0, 1) := by decide +kernel
theorem dX9_teach_9 : decode cX9_teach 9 = .ok (.getfield 58, 3) := by decide +kernel
theorem dX9_teach_12 : decode cX9_teach 12 = .ok (.getfield 209, 3) := by decide +kernel
theorem dX9_teach_15 : decode cX9_teach 15 = .ok (.iconst 3, 1) := by decide +kernel
theorem dX9_teach_16 : decode cX9_teach 16 = .ok (.if_icmp .lt 14, 3) := by decide +kernel
theorem dX9_teach_19 : decode cX9_teach 19 = .ok (.aload_n 0, 1) := by decide +kernel
theorem dX9_teach_20 : decode cX9_teach 20 = .ok (.getfield 58, 3) := by decide +kernel
theorem dX9_teach_23 : decode cX9_teach 23 = .ok (.iload_n 1, 1) := by decide +kernel
theorem dX9_teach_24 : decode cX9_teach 24 = .ok (.invokevirtual 145, 3) := by decide +kernel
theorem dX9_teach_27 : decode cX9_teach 27 = .ok (.ifCond .ne 5, 3) := by decide +kernel
theorem dX9_teach_30 : decode cX9_teach 30 = .ok (.iconst (-1), 1) := by decide +kernel
theorem dX9_teach_31 : decode cX9_teach 31 = .ok (.ireturn, 1) := by decide +kernel
theorem dX9_teach_32 : decode cX9_teach 32 = .ok (.aload_n 0, 1) := by decide +kernel
theorem dX9_teach_33 : decode cX9_teach 33 = .ok (.getfield 75, 3) := by decide +kernel
theorem dX9_teach_36 : decode cX9_teach 36 = .ok (.aload_n 0, 1) := by decide +kernel
theorem dX9_teach_37 : decode cX9_teach 37 = .ok (.getfield 58, 3) := by decide +kernel
theorem dX9_teach_40 : decode cX9_teach 40 = .ok (.invokevirtual 173, 3) := by decide +kernel
theorem dX9_teach_43 : decode cX9_teach 43 = .ok (.aload_n 0, 1) := by decide +kernel
theorem dX9_teach_44 : decode cX9_teach 44 = .ok (.getfield 75, 3) := by decide +kernel
theorem dX9_teach_47 : decode cX9_teach 47 = .ok (.invokevirtual 181, 3) := by decide +kernel
theorem dX9_teach_50 : decode cX9_teach 50 = .ok (.aload_n 0, 1) := by decide +kernel
theorem dX9_teach_51 : decode cX9_teach 51 = .ok (.getfield 58, 3) := by decide +kernel
theorem dX9_teach_54 : decode cX9_teach 54 = .ok (.dup, 1) := by decide +kernel
theorem dX9_teach_55 : decode cX9_teach 55 = .ok (.getfield 209, 3) := by decide +kernel
theorem dX9_teach_58 : decode cX9_teach 58 = .ok (.iconst 3, 1) := by decide +kernel
theorem dX9_teach_59 : decode cX9_teach 59 = .ok (.isub, 1) := by decide +kernel
theorem dX9_teach_60 : decode cX9_teach 60 = .ok (.putfield 209, 3) := by decide +kernel
theorem dX9_teach_63 : decode cX9_teach 63 = .ok (.aload_n 0, 1) := by decide +kernel
theorem dX9_teach_64 : decode cX9_teach 64 = .ok (.getfield 58, 3) := by decide +kernel
theorem dX9_teach_67 : decode cX9_teach 67 = .ok (.getfield 216, 3) := by decide +kernel
theorem dX9_teach_70 : decode cX9_teach 70 = .ok (.iload_n 1, 1) := by decide +kernel
theorem dX9_teach_71 : decode cX9_teach 71 = .ok (.aload_n 0, 1) := by decide +kernel
theorem dX9_teach_72 : decode cX9_teach 72 = .ok (.getfield 58, 3) := by decide +kernel
theorem dX9_teach_75 : decode cX9_teach 75 = .ok (.iload_n 1, 1) := by decide +kernel
theorem dX9_teach_76 : decode cX9_teach 76 = .ok (.invokevirtual 145, 3) := by decide +kernel
theorem dX9_teach_79 : decode cX9_teach 79 = .ok (.iconst 1, 1) := by decide +kernel
theorem dX9_teach_80 : decode cX9_teach 80 = .ok (.isub, 1) := by decide +kernel
theorem dX9_teach_81 : decode cX9_teach 81 = .ok (.invokestatic 219, 3) := by decide +kernel
theorem dX9_teach_84 : decode cX9_teach 84 = .ok (.aload_n 0, 1) := by decide +kernel
theorem dX9_teach_85 : decode cX9_teach 85 = .ok (.getfield 58, 3) := by decide +kernel
theorem dX9_teach_88 : decode cX9_teach 88 = .ok (.iload_n 1, 1) := by decide +kernel
theorem dX9_teach_89 : decode cX9_teach 89 = .ok (.invokevirtual 145, 3) := by decide +kernel
theorem dX9_teach_92 : decode cX9_teach 92 = .ok (.ireturn, 1) := by decide +kernel
theorem dX9_text_0 : decode cX9_text 0 = .ok (.iload_n 1, 1) := by decide +kernel
theorem dX9_text_1 : decode cX9_text 1 = .ok (.ifCond .lt 8, 3) := by decide +kernel
theorem dX9_text_4 : decode cX9_text 4 = .ok (.iload_n 1, 1) := by decide +kernel
theorem dX9_text_5 : decode cX9_text 5 = .ok (.iconst 2, 1) := by decide +kernel
theorem dX9_text_6 : decode cX9_text 6 = .ok (.if_icmp .le 5, 3) := by decide +kernel
theorem dX9_text_9 : decode cX9_text 9 = .ok (.iconst (-1), 1) := by decide +kernel
theorem dX9_text_10 : decode cX9_text 10 = .ok (.ireturn, 1) := by decide +kernel
theorem dX9_text_11 : decode cX9_text 11 = .ok (.iload_n 1, 1) := by decide +kernel
theorem dX9_text_12 : decode cX9_text 12 = .ok (.iconst 1, 1) := by decide +kernel
theorem dX9_text_13 : decode cX9_text 13 = .ok (.if_icmp .ne 11, 3) := by decide +kernel
theorem dX9_text_16 : decode cX9_text 16 = .ok (.aload_n 0, 1) := by decide +kernel
theorem dX9_text_17 : decode cX9_text 17 = .ok (.getfield 38, 3) := by decide +kernel
theorem dX9_text_20 : decode cX9_text 20 = .ok (.iconst 4, 1) := by decide +kernel
theorem dX9_text_21 : decode cX9_text 21 = .ok (.if_icmp .ge 16, 3) := by decide +kernel
theorem dX9_text_24 : decode cX9_text 24 = .ok (.iload_n 1, 1) := by decide +kernel
theorem dX9_text_25 : decode cX9_text 25 = .ok (.iconst 2, 1) := by decide +kernel
theorem dX9_text_26 : decode cX9_text 26 = .ok (.if_icmp .ne 13, 3) := by decide +kernel
theorem dX9_text_29 : decode cX9_text 29 = .ok (.aload_n 0, 1) := by decide +kernel
theorem dX9_text_30 : decode cX9_text 30 = .ok (.getfield 45, 3) := by decide +kernel
theorem dX9_text_33 : decode cX9_text 33 = .ok (.iconst 4, 1) := by decide +kernel
theorem dX9_text_34 : decode cX9_text 34 = .ok (.if_icmp .lt 5, 3) := by decide +kernel
theorem dX9_text_37 : decode cX9_text 37 = .ok (.iconst (-1), 1) := by decide +kernel
theorem dX9_text_38 : decode cX9_text 38 = .ok (.ireturn, 1) := by decide +kernel
theorem dX9_text_39 : decode cX9_text 39 = .ok (.aload_n 0, 1) := by decide +kernel
theorem dX9_text_40 : decode cX9_text 40 = .ok (.iload_n 1, 1) := by decide +kernel
theorem dX9_text_41 : decode cX9_text 41 = .ok (.invokevirtual 121, 3) := by decide +kernel
theorem dX9_text_44 : decode cX9_text 44 = .ok (.ifCond .ne 5, 3) := by decide +kernel
theorem dX9_text_47 : decode cX9_text 47 = .ok (.iconst (-1), 1) := by decide +kernel
theorem dX9_text_48 : decode cX9_text 48 = .ok (.ireturn, 1) := by decide +kernel
theorem dX9_text_49 : decode cX9_text 49 = .ok (.aload_n 0, 1) := by decide +kernel
theorem dX9_text_50 : decode cX9_text 50 = .ok (.getfield 10, 3) := by decide +kernel
theorem dX9_text_53 : decode cX9_text 53 = .ok (.iconst 0, 1) := by decide +kernel
theorem dX9_text_54 : decode cX9_text 54 = .ok (.putfield 114, 3) := by decide +kernel
theorem dX9_text_57 : decode cX9_text 57 = .ok (.iload_n 1, 1) := by decide +kernel
theorem dX9_text_58 : decode cX9_text 58 = .ok (.iconst 1, 1) := by decide +kernel
theorem dX9_text_59 : decode cX9_text 59 = .ok (.if_icmp .ne 15, 3) := by decide +kernel
theorem dX9_text_62 : decode cX9_text 62 = .ok (.aload_n 0, 1) := by decide +kernel
theorem dX9_text_63 : decode cX9_text 63 = .ok (.dup, 1) := by decide +kernel
theorem dX9_text_64 : decode cX9_text 64 = .ok (.getfield 38, 3) := by decide +kernel
theorem dX9_text_67 : decode cX9_text 67 = .ok (.dup_x1, 1) := by decide +kernel
theorem dX9_text_68 : decode cX9_text 68 = .ok (.iconst 1, 1) := by decide +kernel
theorem dX9_text_69 : decode cX9_text 69 = .ok (.iadd, 1) := by decide +kernel
theorem dX9_text_70 : decode cX9_text 70 = .ok (.putfield 38, 3) := by decide +kernel
theorem dX9_text_73 : decode cX9_text 73 = .ok (.ireturn, 1) := by decide +kernel
theorem dX9_text_74 : decode cX9_text 74 = .ok (.iload_n 1, 1) := by decide +kernel
theorem dX9_text_75 : decode cX9_text 75 = .ok (.iconst 2, 1) := by decide +kernel
theorem dX9_text_76 : decode cX9_text 76 = .ok (.if_icmp .ne 17, 3) := by decide +kernel
theorem dX9_text_79 : decode cX9_text 79 = .ok (.aload_n 0, 1) := by decide +kernel
theorem dX9_text_80 : decode cX9_text 80 = .ok (.dup, 1) := by decide +kernel
theorem dX9_text_81 : decode cX9_text 81 = .ok (.getfield 45, 3) := by decide +kernel
theorem dX9_text_84 : decode cX9_text 84 = .ok (.dup_x1, 1) := by decide +kernel
theorem dX9_text_85 : decode cX9_text 85 = .ok (.iconst 1, 1) := by decide +kernel
theorem dX9_text_86 : decode cX9_text 86 = .ok (.iadd, 1) := by decide +kernel
theorem dX9_text_87 : decode cX9_text 87 = .ok (.putfield 45, 3) := by decide +kernel
theorem dX9_text_90 : decode cX9_text 90 = .ok (.goto 7, 3) := by decide +kernel
theorem dX9_text_93 : decode cX9_text 93 = .ok (.aload_n 0, 1) := by decide +kernel
theorem dX9_text_94 : decode cX9_text 94 = .ok (.invokevirtual 128, 3) := by decide +kernel
theorem dX9_text_97 : decode cX9_text 97 = .ok (.ireturn, 1) := by decide +kernel
theorem dX9_tonight_0 : decode cX9_tonight 0 = .ok (.aload_n 0, 1) := by decide +kernel
theorem dX9_tonight_1 : decode cX9_tonight 1 = .ok (.invokevirtual 223, 3) := by decide +kernel
theorem dX9_tonight_4 : decode cX9_tonight 4 = .ok (.ifCond .ne 5, 3) := by decide +kernel
theorem dX9_tonight_7 : decode cX9_tonight 7 = .ok (.iconst (-1), 1) := by decide +kernel
theorem dX9_tonight_8 : decode cX9_tonight 8 = .ok (.ireturn, 1) := by decide +kernel
theorem dX9_tonight_9 : decode cX9_tonight 9 = .ok (.aload_n 0, 1) := by decide +kernel
theorem dX9_tonight_10 : decode cX9_tonight 10 = .ok (.invokevirtual 272, 3) := by decide +kernel
theorem dX9_tonight_13 : decode cX9_tonight 13 = .ok (.astore_n 1, 1) := by decide +kernel
theorem dX9_tonight_14 : decode cX9_tonight 14 = .ok (.aload_n 1, 1) := by decide +kernel
theorem dX9_tonight_15 : decode cX9_tonight 15 = .ok (.iconst (-1), 1) := by decide +kernel
theorem dX9_tonight_16 : decode cX9_tonight 16 = .ok (.invokevirtual 276, 3) := by decide +kernel
theorem dX9_tonight_19 : decode cX9_tonight 19 = .ok (.aload_n 1, 1) := by decide +kernel
theorem dX9_tonight_20 : decode cX9_tonight 20 = .ok (.getfield 279, 3) := by decide +kernel
theorem dX9_tonight_23 : decode cX9_tonight 23 = .ok (.aload_n 1, 1) := by decide +kernel
theorem dX9_tonight_24 : decode cX9_tonight 24 = .ok (.getfield 282, 3) := by decide +kernel
theorem dX9_tonight_27 : decode cX9_tonight 27 = .ok (.invokestatic 285, 3) := by decide +kernel
theorem dX9_tonight_30 : decode cX9_tonight 30 = .ok (.ireturn, 1) := by decide +kernel
theorem dX4_takeBack_0 : decode cX4_takeBack 0 = .ok (.aload_n 0, 1) := by decide +kernel
theorem dX4_takeBack_1 : decode cX4_takeBack 1 = .ok (.getfield 21, 3) := by decide +kernel
theorem dX4_takeBack_4 : decode cX4_takeBack 4 = .ok (.ifCond .ne 5, 3) := by decide +kernel
theorem dX4_takeBack_7 : decode cX4_takeBack 7 = .ok (.iconst (-1), 1) := by decide +kernel
theorem dX4_takeBack_8 : decode cX4_takeBack 8 = .ok (.ireturn, 1) := by decide +kernel
theorem dX4_takeBack_9 : decode cX4_takeBack 9 = .ok (.aload_n 0, 1) := by decide +kernel
theorem dX4_takeBack_10 : decode cX4_takeBack 10 = .ok (.dup, 1) := by decide +kernel
theorem dX4_takeBack_11 : decode cX4_takeBack 11 = .ok (.getfield 21, 3) := by decide +kernel
theorem dX4_takeBack_14 : decode cX4_takeBack 14 = .ok (.iconst 1, 1) := by decide +kernel
theorem dX4_takeBack_15 : decode cX4_takeBack 15 = .ok (.isub, 1) := by decide +kernel
theorem dX4_takeBack_16 : decode cX4_takeBack 16 = .ok (.putfield 21, 3) := by decide +kernel
theorem dX4_takeBack_19 : decode cX4_takeBack 19 = .ok (.aload_n 1, 1) := by decide +kernel
theorem dX4_takeBack_20 : decode cX4_takeBack 20 = .ok (.aload_n 0, 1) := by decide +kernel
theorem dX4_takeBack_21 : decode cX4_takeBack 21 = .ok (.invokevirtual 25, 3) := by decide +kernel
theorem dX4_takeBack_24 : decode cX4_takeBack 24 = .ok (.invokevirtual 29, 3) := by decide +kernel
theorem dX4_takeBack_27 : decode cX4_takeBack 27 = .ok (.aload_n 0, 1) := by decide +kernel
theorem dX4_takeBack_28 : decode cX4_takeBack 28 = .ok (.getfield 21, 3) := by decide +kernel
theorem dX4_takeBack_31 : decode cX4_takeBack 31 = .ok (.ireturn, 1) := by decide +kernel
theorem dX9_undo_0 : decode cX9_undo 0 = .ok (.aload_n 0, 1) := by decide +kernel
theorem dX9_undo_1 : decode cX9_undo 1 = .ok (.getfield 75, 3) := by decide +kernel
theorem dX9_undo_4 : decode cX9_undo 4 = .ok (.aload_n 0, 1) := by decide +kernel
theorem dX9_undo_5 : decode cX9_undo 5 = .ok (.getfield 58, 3) := by decide +kernel
theorem dX9_undo_8 : decode cX9_undo 8 = .ok (.invokevirtual 236, 3) := by decide +kernel
theorem dX9_undo_11 : decode cX9_undo 11 = .ok (.ireturn, 1) := by decide +kernel
theorem dX9_wrong_0 : decode cX9_wrong 0 = .ok (.aload_n 0, 1) := by decide +kernel
theorem dX9_wrong_1 : decode cX9_wrong 1 = .ok (.iload_n 1, 1) := by decide +kernel
theorem dX9_wrong_2 : decode cX9_wrong 2 = .ok (.invokevirtual 154, 3) := by decide +kernel
theorem dX9_wrong_5 : decode cX9_wrong 5 = .ok (.ifCond .ne 5, 3) := by decide +kernel
theorem dX9_wrong_8 : decode cX9_wrong 8 = .ok (.iconst (-1), 1) := by decide +kernel
theorem dX9_wrong_9 : decode cX9_wrong 9 = .ok (.ireturn, 1) := by decide +kernel
theorem dX9_wrong_10 : decode cX9_wrong 10 = .ok (.iload_n 2, 1) := by decide +kernel
theorem dX9_wrong_11 : decode cX9_wrong 11 = .ok (.tableswitch 110 0 4 #[33, 42, 51, 60, 77], 33) := by decide +kernel
theorem dX9_wrong_44 : decode cX9_wrong 44 = .ok (.aload_n 0, 1) := by decide +kernel
theorem dX9_wrong_45 : decode cX9_wrong 45 = .ok (.getfield 19, 3) := by decide +kernel
theorem dX9_wrong_48 : decode cX9_wrong 48 = .ok (.iload_n 1, 1) := by decide +kernel
theorem dX9_wrong_49 : decode cX9_wrong 49 = .ok (.invokevirtual 157, 3) := by decide +kernel
theorem dX9_wrong_52 : decode cX9_wrong 52 = .ok (.ireturn, 1) := by decide +kernel
theorem dX9_wrong_53 : decode cX9_wrong 53 = .ok (.aload_n 0, 1) := by decide +kernel
theorem dX9_wrong_54 : decode cX9_wrong 54 = .ok (.getfield 19, 3) := by decide +kernel
theorem dX9_wrong_57 : decode cX9_wrong 57 = .ok (.iload_n 1, 1) := by decide +kernel
theorem dX9_wrong_58 : decode cX9_wrong 58 = .ok (.invokevirtual 160, 3) := by decide +kernel
theorem dX9_wrong_61 : decode cX9_wrong 61 = .ok (.ireturn, 1) := by decide +kernel
theorem dX9_wrong_62 : decode cX9_wrong 62 = .ok (.aload_n 0, 1) := by decide +kernel
theorem dX9_wrong_63 : decode cX9_wrong 63 = .ok (.getfield 19, 3) := by decide +kernel
theorem dX9_wrong_66 : decode cX9_wrong 66 = .ok (.iload_n 1, 1) := by decide +kernel
theorem dX9_wrong_67 : decode cX9_wrong 67 = .ok (.invokevirtual 163, 3) := by decide +kernel
theorem dX9_wrong_70 : decode cX9_wrong 70 = .ok (.ireturn, 1) := by decide +kernel
theorem dX9_wrong_71 : decode cX9_wrong 71 = .ok (.aload_n 0, 1) := by decide +kernel
theorem dX9_wrong_72 : decode cX9_wrong 72 = .ok (.getfield 58, 3) := by decide +kernel
theorem dX9_wrong_75 : decode cX9_wrong 75 = .ok (.iload_n 1, 1) := by decide +kernel
theorem dX9_wrong_76 : decode cX9_wrong 76 = .ok (.invokevirtual 166, 3) := by decide +kernel
theorem dX9_wrong_79 : decode cX9_wrong 79 = .ok (.ifCond .eq 7, 3) := by decide +kernel
theorem dX9_wrong_82 : decode cX9_wrong 82 = .ok (.iconst 1, 1) := by decide +kernel
theorem dX9_wrong_83 : decode cX9_wrong 83 = .ok (.goto 4, 3) := by decide +kernel
theorem dX9_wrong_86 : decode cX9_wrong 86 = .ok (.iconst 0, 1) := by decide +kernel
theorem dX9_wrong_87 : decode cX9_wrong 87 = .ok (.ireturn, 1) := by decide +kernel
theorem dX9_wrong_88 : decode cX9_wrong 88 = .ok (.aload_n 0, 1) := by decide +kernel
theorem dX9_wrong_89 : decode cX9_wrong 89 = .ok (.aload_n 0, 1) := by decide +kernel
theorem dX9_wrong_90 : decode cX9_wrong 90 = .ok (.getfield 58, 3) := by decide +kernel
theorem dX9_wrong_93 : decode cX9_wrong 93 = .ok (.aload_n 0, 1) := by decide +kernel
theorem dX9_wrong_94 : decode cX9_wrong 94 = .ok (.getfield 19, 3) := by decide +kernel
theorem dX9_wrong_97 : decode cX9_wrong 97 = .ok (.iload_n 1, 1) := by decide +kernel
theorem dX9_wrong_98 : decode cX9_wrong 98 = .ok (.invokevirtual 157, 3) := by decide +kernel
theorem dX9_wrong_101 : decode cX9_wrong 101 = .ok (.aload_n 0, 1) := by decide +kernel
theorem dX9_wrong_102 : decode cX9_wrong 102 = .ok (.getfield 19, 3) := by decide +kernel
theorem dX9_wrong_105 : decode cX9_wrong 105 = .ok (.iload_n 1, 1) := by decide +kernel
theorem dX9_wrong_106 : decode cX9_wrong 106 = .ok (.invokevirtual 160, 3) := by decide +kernel
theorem dX9_wrong_109 : decode cX9_wrong 109 = .ok (.aload_n 0, 1) := by decide +kernel
theorem dX9_wrong_110 : decode cX9_wrong 110 = .ok (.getfield 19, 3) := by decide +kernel
theorem dX9_wrong_113 : decode cX9_wrong 113 = .ok (.iload_n 1, 1) := by decide +kernel
theorem dX9_wrong_114 : decode cX9_wrong 114 = .ok (.invokevirtual 163, 3) := by decide +kernel
theorem dX9_wrong_117 : decode cX9_wrong 117 = .ok (.invokevirtual 169, 3) := by decide +kernel
theorem dX9_wrong_120 : decode cX9_wrong 120 = .ok (.ireturn, 1) := by decide +kernel
theorem dX9_wrong_121 : decode cX9_wrong 121 = .ok (.iconst (-1), 1) := by decide +kernel
theorem dX9_wrong_122 : decode cX9_wrong 122 = .ok (.ireturn, 1) := by decide +kernel
theorem dX9_years_0 : decode cX9_years 0 = .ok (.aload_n 0, 1) := by decide +kernel
theorem dX9_years_1 : decode cX9_years 1 = .ok (.invokevirtual 223, 3) := by decide +kernel
theorem dX9_years_4 : decode cX9_years 4 = .ok (.ifCond .eq 29, 3) := by decide +kernel
theorem dX9_years_7 : decode cX9_years 7 = .ok (.iload_n 1, 1) := by decide +kernel
theorem dX9_years_8 : decode cX9_years 8 = .ok (.iconst 1, 1) := by decide +kernel
theorem dX9_years_9 : decode cX9_years 9 = .ok (.if_icmp .lt 24, 3) := by decide +kernel
theorem dX9_years_12 : decode cX9_years 12 = .ok (.iload_n 1, 1) := by decide +kernel
theorem dX9_years_13 : decode cX9_years 13 = .ok (.bipush 30, 2) := by decide +kernel
theorem dX9_years_15 : decode cX9_years 15 = .ok (.if_icmp .gt 18, 3) := by decide +kernel
theorem dX9_years_18 : decode cX9_years 18 = .ok (.aload_n 0, 1) := by decide +kernel
theorem dX9_years_19 : decode cX9_years 19 = .ok (.getfield 58, 3) := by decide +kernel
theorem dX9_years_22 : decode cX9_years 22 = .ok (.getfield 227, 3) := by decide +kernel
theorem dX9_years_25 : decode cX9_years 25 = .ok (.iload_n 1, 1) := by decide +kernel
theorem dX9_years_26 : decode cX9_years 26 = .ok (.iadd, 1) := by decide +kernel
theorem dX9_years_27 : decode cX9_years 27 = .ok (.sipush 999, 3) := by decide +kernel
theorem dX9_years_30 : decode cX9_years 30 = .ok (.if_icmp .le 5, 3) := by decide +kernel
theorem dX9_years_33 : decode cX9_years 33 = .ok (.iconst (-1), 1) := by decide +kernel
theorem dX9_years_34 : decode cX9_years 34 = .ok (.ireturn, 1) := by decide +kernel
theorem dX9_years_35 : decode cX9_years 35 = .ok (.aload_n 0, 1) := by decide +kernel
theorem dX9_years_36 : decode cX9_years 36 = .ok (.lload_n 2, 1) := by decide +kernel
theorem dX9_years_37 : decode cX9_years 37 = .ok (.putfield 104, 3) := by decide +kernel
theorem dX9_years_40 : decode cX9_years 40 = .ok (.iconst 0, 1) := by decide +kernel
theorem dX9_years_41 : decode cX9_years 41 = .ok (.istore 4, 2) := by decide +kernel
theorem dX9_years_43 : decode cX9_years 43 = .ok (.iload 4, 2) := by decide +kernel
theorem dX9_years_45 : decode cX9_years 45 = .ok (.iload_n 1, 1) := by decide +kernel
theorem dX9_years_46 : decode cX9_years 46 = .ok (.if_icmp .ge 50, 3) := by decide +kernel
theorem dX9_years_49 : decode cX9_years 49 = .ok (.aload_n 0, 1) := by decide +kernel
theorem dX9_years_50 : decode cX9_years 50 = .ok (.getfield 75, 3) := by decide +kernel
theorem dX9_years_53 : decode cX9_years 53 = .ok (.aload_n 0, 1) := by decide +kernel
theorem dX9_years_54 : decode cX9_years 54 = .ok (.getfield 58, 3) := by decide +kernel
theorem dX9_years_57 : decode cX9_years 57 = .ok (.invokevirtual 173, 3) := by decide +kernel
theorem dX9_years_60 : decode cX9_years 60 = .ok (.aload_n 0, 1) := by decide +kernel
theorem dX9_years_61 : decode cX9_years 61 = .ok (.getfield 75, 3) := by decide +kernel
theorem dX9_years_64 : decode cX9_years 64 = .ok (.invokevirtual 181, 3) := by decide +kernel
theorem dX9_years_67 : decode cX9_years 67 = .ok (.aload_n 0, 1) := by decide +kernel
theorem dX9_years_68 : decode cX9_years 68 = .ok (.invokevirtual 230, 3) := by decide +kernel
theorem dX9_years_71 : decode cX9_years 71 = .ok (.aload_n 0, 1) := by decide +kernel
theorem dX9_years_72 : decode cX9_years 72 = .ok (.getfield 58, 3) := by decide +kernel
theorem dX9_years_75 : decode cX9_years 75 = .ok (.iconst (-1), 1) := by decide +kernel
theorem dX9_years_76 : decode cX9_years 76 = .ok (.invokevirtual 233, 3) := by decide +kernel
theorem dX9_years_79 : decode cX9_years 79 = .ok (.aload_n 0, 1) := by decide +kernel
theorem dX9_years_80 : decode cX9_years 80 = .ok (.getfield 82, 3) := by decide +kernel
theorem dX9_years_83 : decode cX9_years 83 = .ok (.aload_n 0, 1) := by decide +kernel
theorem dX9_years_84 : decode cX9_years 84 = .ok (.getfield 58, 3) := by decide +kernel
theorem dX9_years_87 : decode cX9_years 87 = .ok (.invokevirtual 192, 3) := by decide +kernel
theorem dX9_years_90 : decode cX9_years 90 = .ok (.iinc 4 1, 3) := by decide +kernel
theorem dX9_years_93 : decode cX9_years 93 = .ok (.goto (-50), 3) := by decide +kernel
theorem dX9_years_96 : decode cX9_years 96 = .ok (.aload_n 0, 1) := by decide +kernel
theorem dX9_years_97 : decode cX9_years 97 = .ok (.getfield 58, 3) := by decide +kernel
theorem dX9_years_100 : decode cX9_years 100 = .ok (.getfield 227, 3) := by decide +kernel
theorem dX9_years_103 : decode cX9_years 103 = .ok (.ireturn, 1) := by decide +kernel
theorem dX10_lays_0 : decode cX10_lays 0 = .ok (.aload_n 0, 1) := by decide +kernel
theorem dX10_lays_1 : decode cX10_lays 1 = .ok (.bipush 6, 2) := by decide +kernel
theorem dX10_lays_3 : decode cX10_lays 3 = .ok (.iload_n 1, 1) := by decide +kernel
theorem dX10_lays_4 : decode cX10_lays 4 = .ok (.imul, 1) := by decide +kernel
theorem dX10_lays_5 : decode cX10_lays 5 = .ok (.iload_n 2, 1) := by decide +kernel
theorem dX10_lays_6 : decode cX10_lays 6 = .ok (.iadd, 1) := by decide +kernel
theorem dX10_lays_7 : decode cX10_lays 7 = .ok (.iload_n 3, 1) := by decide +kernel
theorem dX10_lays_8 : decode cX10_lays 8 = .ok (.iastore, 1) := by decide +kernel
theorem dX10_lays_9 : decode cX10_lays 9 = .ok (.aload_n 0, 1) := by decide +kernel
theorem dX10_lays_10 : decode cX10_lays 10 = .ok (.bipush 6, 2) := by decide +kernel
theorem dX10_lays_12 : decode cX10_lays 12 = .ok (.iload_n 2, 1) := by decide +kernel
theorem dX10_lays_13 : decode cX10_lays 13 = .ok (.imul, 1) := by decide +kernel
theorem dX10_lays_14 : decode cX10_lays 14 = .ok (.iload_n 1, 1) := by decide +kernel
theorem dX10_lays_15 : decode cX10_lays 15 = .ok (.iadd, 1) := by decide +kernel
theorem dX10_lays_16 : decode cX10_lays 16 = .ok (.iload_n 3, 1) := by decide +kernel
theorem dX10_lays_17 : decode cX10_lays 17 = .ok (.iastore, 1) := by decide +kernel
theorem dX10_lays_18 : decode cX10_lays 18 = .ok (.return_, 1) := by decide +kernel
theorem dX10_owes_0 : decode cX10_owes 0 = .ok (.aload_n 0, 1) := by decide +kernel
theorem dX10_owes_1 : decode cX10_owes 1 = .ok (.bipush 6, 2) := by decide +kernel
theorem dX10_owes_3 : decode cX10_owes 3 = .ok (.iload_n 1, 1) := by decide +kernel
theorem dX10_owes_4 : decode cX10_owes 4 = .ok (.imul, 1) := by decide +kernel
theorem dX10_owes_5 : decode cX10_owes 5 = .ok (.iload_n 2, 1) := by decide +kernel
theorem dX10_owes_6 : decode cX10_owes 6 = .ok (.iadd, 1) := by decide +kernel
theorem dX10_owes_7 : decode cX10_owes 7 = .ok (.iaload, 1) := by decide +kernel
theorem dX10_owes_8 : decode cX10_owes 8 = .ok (.ireturn, 1) := by decide +kernel
theorem dX10_adds_0 : decode cX10_adds 0 = .ok (.aload_n 0, 1) := by decide +kernel
theorem dX10_adds_1 : decode cX10_adds 1 = .ok (.iload_n 1, 1) := by decide +kernel
theorem dX10_adds_2 : decode cX10_adds 2 = .ok (.iload_n 2, 1) := by decide +kernel
theorem dX10_adds_3 : decode cX10_adds 3 = .ok (.bipush 99, 2) := by decide +kernel
theorem dX10_adds_5 : decode cX10_adds 5 = .ok (.aload_n 0, 1) := by decide +kernel
theorem dX10_adds_6 : decode cX10_adds 6 = .ok (.iload_n 1, 1) := by decide +kernel
theorem dX10_adds_7 : decode cX10_adds 7 = .ok (.iload_n 2, 1) := by decide +kernel
theorem dX10_adds_8 : decode cX10_adds 8 = .ok (.invokestatic 312, 3) := by decide +kernel
theorem dX10_adds_11 : decode cX10_adds 11 = .ok (.iload_n 3, 1) := by decide +kernel
theorem dX10_adds_12 : decode cX10_adds 12 = .ok (.iadd, 1) := by decide +kernel
theorem dX10_adds_13 : decode cX10_adds 13 = .ok (.invokestatic 316, 3) := by decide +kernel
theorem dX10_adds_16 : decode cX10_adds 16 = .ok (.invokestatic 318, 3) := by decide +kernel
theorem dX10_adds_19 : decode cX10_adds 19 = .ok (.return_, 1) := by decide +kernel
theorem dX10_allOwed_0 : decode cX10_allOwed 0 = .ok (.iconst 0, 1) := by decide +kernel
theorem dX10_allOwed_1 : decode cX10_allOwed 1 = .ok (.istore_n 2, 1) := by decide +kernel
theorem dX10_allOwed_2 : decode cX10_allOwed 2 = .ok (.iconst 0, 1) := by decide +kernel
theorem dX10_allOwed_3 : decode cX10_allOwed 3 = .ok (.istore_n 3, 1) := by decide +kernel
theorem dX10_allOwed_4 : decode cX10_allOwed 4 = .ok (.iload_n 3, 1) := by decide +kernel
theorem dX10_allOwed_5 : decode cX10_allOwed 5 = .ok (.aload_n 0, 1) := by decide +kernel
theorem dX10_allOwed_6 : decode cX10_allOwed 6 = .ok (.getfield 294, 3) := by decide +kernel
theorem dX10_allOwed_9 : decode cX10_allOwed 9 = .ok (.if_icmp .ge 39, 3) := by decide +kernel
theorem dX10_allOwed_12 : decode cX10_allOwed 12 = .ok (.iload_n 3, 1) := by decide +kernel
theorem dX10_allOwed_13 : decode cX10_allOwed 13 = .ok (.iconst 1, 1) := by decide +kernel
theorem dX10_allOwed_14 : decode cX10_allOwed 14 = .ok (.iadd, 1) := by decide +kernel
theorem dX10_allOwed_15 : decode cX10_allOwed 15 = .ok (.istore 4, 2) := by decide +kernel
theorem dX10_allOwed_17 : decode cX10_allOwed 17 = .ok (.iload 4, 2) := by decide +kernel
theorem dX10_allOwed_19 : decode cX10_allOwed 19 = .ok (.aload_n 0, 1) := by decide +kernel
theorem dX10_allOwed_20 : decode cX10_allOwed 20 = .ok (.getfield 294, 3) := by decide +kernel
theorem dX10_allOwed_23 : decode cX10_allOwed 23 = .ok (.if_icmp .ge 19, 3) := by decide +kernel
theorem dX10_allOwed_26 : decode cX10_allOwed 26 = .ok (.iload_n 2, 1) := by decide +kernel
theorem dX10_allOwed_27 : decode cX10_allOwed 27 = .ok (.aload_n 1, 1) := by decide +kernel
theorem dX10_allOwed_28 : decode cX10_allOwed 28 = .ok (.iload_n 3, 1) := by decide +kernel
theorem dX10_allOwed_29 : decode cX10_allOwed 29 = .ok (.iload 4, 2) := by decide +kernel
theorem dX10_allOwed_31 : decode cX10_allOwed 31 = .ok (.invokestatic 312, 3) := by decide +kernel
theorem dX10_allOwed_34 : decode cX10_allOwed 34 = .ok (.iadd, 1) := by decide +kernel
theorem dX10_allOwed_35 : decode cX10_allOwed 35 = .ok (.istore_n 2, 1) := by decide +kernel
theorem dX10_allOwed_36 : decode cX10_allOwed 36 = .ok (.iinc 4 1, 3) := by decide +kernel
theorem dX10_allOwed_39 : decode cX10_allOwed 39 = .ok (.goto (-22), 3) := by decide +kernel
theorem dX10_allOwed_42 : decode cX10_allOwed 42 = .ok (.iinc 3 1, 3) := by decide +kernel
theorem dX10_allOwed_45 : decode cX10_allOwed 45 = .ok (.goto (-41), 3) := by decide +kernel
theorem dX10_allOwed_48 : decode cX10_allOwed 48 = .ok (.iload_n 2, 1) := by decide +kernel
theorem dX10_allOwed_49 : decode cX10_allOwed 49 = .ok (.ireturn, 1) := by decide +kernel
theorem dX10_owesInAll_0 : decode cX10_owesInAll 0 = .ok (.iconst 0, 1) := by decide +kernel
theorem dX10_owesInAll_1 : decode cX10_owesInAll 1 = .ok (.istore_n 2, 1) := by decide +kernel
theorem dX10_owesInAll_2 : decode cX10_owesInAll 2 = .ok (.iconst 0, 1) := by decide +kernel
theorem dX10_owesInAll_3 : decode cX10_owesInAll 3 = .ok (.istore_n 3, 1) := by decide +kernel
theorem dX10_owesInAll_4 : decode cX10_owesInAll 4 = .ok (.iload_n 3, 1) := by decide +kernel
theorem dX10_owesInAll_5 : decode cX10_owesInAll 5 = .ok (.aload_n 0, 1) := by decide +kernel
theorem dX10_owesInAll_6 : decode cX10_owesInAll 6 = .ok (.getfield 294, 3) := by decide +kernel
theorem dX10_owesInAll_9 : decode cX10_owesInAll 9 = .ok (.if_icmp .ge 21, 3) := by decide +kernel
theorem dX10_owesInAll_12 : decode cX10_owesInAll 12 = .ok (.iload_n 2, 1) := by decide +kernel
theorem dX10_owesInAll_13 : decode cX10_owesInAll 13 = .ok (.aload_n 0, 1) := by decide +kernel
theorem dX10_owesInAll_14 : decode cX10_owesInAll 14 = .ok (.getfield 61, 3) := by decide +kernel
theorem dX10_owesInAll_17 : decode cX10_owesInAll 17 = .ok (.iload_n 1, 1) := by decide +kernel
theorem dX10_owesInAll_18 : decode cX10_owesInAll 18 = .ok (.iload_n 3, 1) := by decide +kernel
theorem dX10_owesInAll_19 : decode cX10_owesInAll 19 = .ok (.invokestatic 312, 3) := by decide +kernel
theorem dX10_owesInAll_22 : decode cX10_owesInAll 22 = .ok (.iadd, 1) := by decide +kernel
theorem dX10_owesInAll_23 : decode cX10_owesInAll 23 = .ok (.istore_n 2, 1) := by decide +kernel
theorem dX10_owesInAll_24 : decode cX10_owesInAll 24 = .ok (.iinc 3 1, 3) := by decide +kernel
theorem dX10_owesInAll_27 : decode cX10_owesInAll 27 = .ok (.goto (-23), 3) := by decide +kernel
theorem dX10_owesInAll_30 : decode cX10_owesInAll 30 = .ok (.iload_n 2, 1) := by decide +kernel
theorem dX10_owesInAll_31 : decode cX10_owesInAll 31 = .ok (.ireturn, 1) := by decide +kernel
theorem dX10_free_0 : decode cX10_free 0 = .ok (.iconst 0, 1) := by decide +kernel
theorem dX10_free_1 : decode cX10_free 1 = .ok (.istore_n 1, 1) := by decide +kernel
theorem dX10_free_2 : decode cX10_free 2 = .ok (.iconst 0, 1) := by decide +kernel
theorem dX10_free_3 : decode cX10_free 3 = .ok (.istore_n 2, 1) := by decide +kernel
theorem dX10_free_4 : decode cX10_free 4 = .ok (.iload_n 2, 1) := by decide +kernel
theorem dX10_free_5 : decode cX10_free 5 = .ok (.aload_n 0, 1) := by decide +kernel
theorem dX10_free_6 : decode cX10_free 6 = .ok (.getfield 294, 3) := by decide +kernel
theorem dX10_free_9 : decode cX10_free 9 = .ok (.if_icmp .ge 27, 3) := by decide +kernel
theorem dX10_free_12 : decode cX10_free 12 = .ok (.iload_n 1, 1) := by decide +kernel
theorem dX10_free_13 : decode cX10_free 13 = .ok (.aload_n 0, 1) := by decide +kernel
theorem dX10_free_14 : decode cX10_free 14 = .ok (.iload_n 2, 1) := by decide +kernel
theorem dX10_free_15 : decode cX10_free 15 = .ok (.invokevirtual 366, 3) := by decide +kernel
theorem dX10_free_18 : decode cX10_free 18 = .ok (.ifCond .ne 9, 3) := by decide +kernel
theorem dX10_free_21 : decode cX10_free 21 = .ok (.iconst 1, 1) := by decide +kernel
theorem dX10_free_22 : decode cX10_free 22 = .ok (.iload_n 2, 1) := by decide +kernel
theorem dX10_free_23 : decode cX10_free 23 = .ok (.ishl, 1) := by decide +kernel
theorem dX10_free_24 : decode cX10_free 24 = .ok (.goto 4, 3) := by decide +kernel
theorem dX10_free_27 : decode cX10_free 27 = .ok (.iconst 0, 1) := by decide +kernel
theorem dX10_free_28 : decode cX10_free 28 = .ok (.ior, 1) := by decide +kernel
theorem dX10_free_29 : decode cX10_free 29 = .ok (.istore_n 1, 1) := by decide +kernel
theorem dX10_free_30 : decode cX10_free 30 = .ok (.iinc 2 1, 3) := by decide +kernel
theorem dX10_free_33 : decode cX10_free 33 = .ok (.goto (-29), 3) := by decide +kernel
theorem dX10_free_36 : decode cX10_free 36 = .ok (.iload_n 1, 1) := by decide +kernel
theorem dX10_free_37 : decode cX10_free 37 = .ok (.ireturn, 1) := by decide +kernel
theorem dX10_lonely_0 : decode cX10_lonely 0 = .ok (.aload_n 0, 1) := by decide +kernel
theorem dX10_lonely_1 : decode cX10_lonely 1 = .ok (.bipush 36, 2) := by decide +kernel
theorem dX10_lonely_3 : decode cX10_lonely 3 = .ok (.iconst 2, 1) := by decide +kernel
theorem dX10_lonely_4 : decode cX10_lonely 4 = .ok (.iload_n 1, 1) := by decide +kernel
theorem dX10_lonely_5 : decode cX10_lonely 5 = .ok (.imul, 1) := by decide +kernel
theorem dX10_lonely_6 : decode cX10_lonely 6 = .ok (.iadd, 1) := by decide +kernel
theorem dX10_lonely_7 : decode cX10_lonely 7 = .ok (.iconst 0, 1) := by decide +kernel
theorem dX10_lonely_8 : decode cX10_lonely 8 = .ok (.iadd, 1) := by decide +kernel
theorem dX10_lonely_9 : decode cX10_lonely 9 = .ok (.iaload, 1) := by decide +kernel
theorem dX10_lonely_10 : decode cX10_lonely 10 = .ok (.ireturn, 1) := by decide +kernel
theorem dX10_valueOf_0 : decode cX10_valueOf 0 = .ok (.iload_n 1, 1) := by decide +kernel
theorem dX10_valueOf_1 : decode cX10_valueOf 1 = .ok (.ifCond .ne 14, 3) := by decide +kernel
theorem dX10_valueOf_4 : decode cX10_valueOf 4 = .ok (.aload_n 0, 1) := by decide +kernel
theorem dX10_valueOf_5 : decode cX10_valueOf 5 = .ok (.getfield 61, 3) := by decide +kernel
theorem dX10_valueOf_8 : decode cX10_valueOf 8 = .ok (.iload_n 2, 1) := by decide +kernel
theorem dX10_valueOf_9 : decode cX10_valueOf 9 = .ok (.invokestatic 334, 3) := by decide +kernel
theorem dX10_valueOf_12 : decode cX10_valueOf 12 = .ok (.goto 47, 3) := by decide +kernel
theorem dX10_valueOf_15 : decode cX10_valueOf 15 = .ok (.iload_n 1, 1) := by decide +kernel
theorem dX10_valueOf_16 : decode cX10_valueOf 16 = .ok (.iconst 1, 1) := by decide +kernel
theorem dX10_valueOf_17 : decode cX10_valueOf 17 = .ok (.if_icmp .ne 19, 3) := by decide +kernel
theorem dX10_valueOf_20 : decode cX10_valueOf 20 = .ok (.aload_n 0, 1) := by decide +kernel
theorem dX10_valueOf_21 : decode cX10_valueOf 21 = .ok (.getfield 61, 3) := by decide +kernel
theorem dX10_valueOf_24 : decode cX10_valueOf 24 = .ok (.bipush 36, 2) := by decide +kernel
theorem dX10_valueOf_26 : decode cX10_valueOf 26 = .ok (.iconst 2, 1) := by decide +kernel
theorem dX10_valueOf_27 : decode cX10_valueOf 27 = .ok (.iload_n 2, 1) := by decide +kernel
theorem dX10_valueOf_28 : decode cX10_valueOf 28 = .ok (.imul, 1) := by decide +kernel
theorem dX10_valueOf_29 : decode cX10_valueOf 29 = .ok (.iadd, 1) := by decide +kernel
theorem dX10_valueOf_30 : decode cX10_valueOf 30 = .ok (.iconst 1, 1) := by decide +kernel
theorem dX10_valueOf_31 : decode cX10_valueOf 31 = .ok (.iadd, 1) := by decide +kernel
theorem dX10_valueOf_32 : decode cX10_valueOf 32 = .ok (.iaload, 1) := by decide +kernel
theorem dX10_valueOf_33 : decode cX10_valueOf 33 = .ok (.goto 26, 3) := by decide +kernel
theorem dX10_valueOf_36 : decode cX10_valueOf 36 = .ok (.iload_n 1, 1) := by decide +kernel
theorem dX10_valueOf_37 : decode cX10_valueOf 37 = .ok (.iconst 2, 1) := by decide +kernel
theorem dX10_valueOf_38 : decode cX10_valueOf 38 = .ok (.if_icmp .ne 16, 3) := by decide +kernel
theorem dX10_valueOf_41 : decode cX10_valueOf 41 = .ok (.aload_n 0, 1) := by decide +kernel
theorem dX10_valueOf_42 : decode cX10_valueOf 42 = .ok (.getfield 43, 3) := by decide +kernel
theorem dX10_valueOf_45 : decode cX10_valueOf 45 = .ok (.iconst 3, 1) := by decide +kernel
theorem dX10_valueOf_46 : decode cX10_valueOf 46 = .ok (.iload_n 2, 1) := by decide +kernel
theorem dX10_valueOf_47 : decode cX10_valueOf 47 = .ok (.imul, 1) := by decide +kernel
theorem dX10_valueOf_48 : decode cX10_valueOf 48 = .ok (.iconst 2, 1) := by decide +kernel
theorem dX10_valueOf_49 : decode cX10_valueOf 49 = .ok (.iadd, 1) := by decide +kernel
theorem dX10_valueOf_50 : decode cX10_valueOf 50 = .ok (.iaload, 1) := by decide +kernel
theorem dX10_valueOf_51 : decode cX10_valueOf 51 = .ok (.goto 8, 3) := by decide +kernel
theorem dX10_valueOf_54 : decode cX10_valueOf 54 = .ok (.aload_n 0, 1) := by decide +kernel
theorem dX10_valueOf_55 : decode cX10_valueOf 55 = .ok (.iload_n 2, 1) := by decide +kernel
theorem dX10_valueOf_56 : decode cX10_valueOf 56 = .ok (.invokevirtual 366, 3) := by decide +kernel
theorem dX10_valueOf_59 : decode cX10_valueOf 59 = .ok (.ireturn, 1) := by decide +kernel
theorem dX10_greatest_0 : decode cX10_greatest 0 = .ok (.iconst 0, 1) := by decide +kernel
theorem dX10_greatest_1 : decode cX10_greatest 1 = .ok (.istore_n 2, 1) := by decide +kernel
theorem dX10_greatest_2 : decode cX10_greatest 2 = .ok (.iconst 1, 1) := by decide +kernel
theorem dX10_greatest_3 : decode cX10_greatest 3 = .ok (.istore_n 3, 1) := by decide +kernel
theorem dX10_greatest_4 : decode cX10_greatest 4 = .ok (.iload_n 3, 1) := by decide +kernel
theorem dX10_greatest_5 : decode cX10_greatest 5 = .ok (.aload_n 0, 1) := by decide +kernel
theorem dX10_greatest_6 : decode cX10_greatest 6 = .ok (.getfield 294, 3) := by decide +kernel
theorem dX10_greatest_9 : decode cX10_greatest 9 = .ok (.if_icmp .ge 30, 3) := by decide +kernel
theorem dX10_greatest_12 : decode cX10_greatest 12 = .ok (.aload_n 0, 1) := by decide +kernel
theorem dX10_greatest_13 : decode cX10_greatest 13 = .ok (.iload_n 1, 1) := by decide +kernel
theorem dX10_greatest_14 : decode cX10_greatest 14 = .ok (.iload_n 3, 1) := by decide +kernel
theorem dX10_greatest_15 : decode cX10_greatest 15 = .ok (.invokevirtual 502, 3) := by decide +kernel
theorem dX10_greatest_18 : decode cX10_greatest 18 = .ok (.aload_n 0, 1) := by decide +kernel
theorem dX10_greatest_19 : decode cX10_greatest 19 = .ok (.iload_n 1, 1) := by decide +kernel
theorem dX10_greatest_20 : decode cX10_greatest 20 = .ok (.iload_n 2, 1) := by decide +kernel
theorem dX10_greatest_21 : decode cX10_greatest 21 = .ok (.invokevirtual 502, 3) := by decide +kernel
theorem dX10_greatest_24 : decode cX10_greatest 24 = .ok (.if_icmp .le 7, 3) := by decide +kernel
theorem dX10_greatest_27 : decode cX10_greatest 27 = .ok (.iload_n 3, 1) := by decide +kernel
theorem dX10_greatest_28 : decode cX10_greatest 28 = .ok (.goto 4, 3) := by decide +kernel
theorem dX10_greatest_31 : decode cX10_greatest 31 = .ok (.iload_n 2, 1) := by decide +kernel
theorem dX10_greatest_32 : decode cX10_greatest 32 = .ok (.istore_n 2, 1) := by decide +kernel
theorem dX10_greatest_33 : decode cX10_greatest 33 = .ok (.iinc 3 1, 3) := by decide +kernel
theorem dX10_greatest_36 : decode cX10_greatest 36 = .ok (.goto (-32), 3) := by decide +kernel
theorem dX10_greatest_39 : decode cX10_greatest 39 = .ok (.iload_n 2, 1) := by decide +kernel
theorem dX10_greatest_40 : decode cX10_greatest 40 = .ok (.ireturn, 1) := by decide +kernel
theorem dX10_copy_0 : decode cX10_copy 0 = .ok (.iconst 0, 1) := by decide +kernel
theorem dX10_copy_1 : decode cX10_copy 1 = .ok (.istore_n 2, 1) := by decide +kernel
theorem dX10_copy_2 : decode cX10_copy 2 = .ok (.iload_n 2, 1) := by decide +kernel
theorem dX10_copy_3 : decode cX10_copy 3 = .ok (.bipush 52, 2) := by decide +kernel
theorem dX10_copy_5 : decode cX10_copy 5 = .ok (.if_icmp .ge 15, 3) := by decide +kernel
theorem dX10_copy_8 : decode cX10_copy 8 = .ok (.aload_n 1, 1) := by decide +kernel
theorem dX10_copy_9 : decode cX10_copy 9 = .ok (.iload_n 2, 1) := by decide +kernel
theorem dX10_copy_10 : decode cX10_copy 10 = .ok (.aload_n 0, 1) := by decide +kernel
theorem dX10_copy_11 : decode cX10_copy 11 = .ok (.iload_n 2, 1) := by decide +kernel
theorem dX10_copy_12 : decode cX10_copy 12 = .ok (.iaload, 1) := by decide +kernel
theorem dX10_copy_13 : decode cX10_copy 13 = .ok (.iastore, 1) := by decide +kernel
theorem dX10_copy_14 : decode cX10_copy 14 = .ok (.iinc 2 1, 3) := by decide +kernel
theorem dX10_copy_17 : decode cX10_copy 17 = .ok (.goto (-15), 3) := by decide +kernel
theorem dX10_copy_20 : decode cX10_copy 20 = .ok (.aload_n 1, 1) := by decide +kernel
theorem dX10_copy_21 : decode cX10_copy 21 = .ok (.bipush 52, 2) := by decide +kernel
theorem dX10_copy_23 : decode cX10_copy 23 = .ok (.iconst 0, 1) := by decide +kernel
theorem dX10_copy_24 : decode cX10_copy 24 = .ok (.iastore, 1) := by decide +kernel
theorem dX10_copy_25 : decode cX10_copy 25 = .ok (.return_, 1) := by decide +kernel
theorem dX10_has_0 : decode cX10_has 0 = .ok (.iload_n 0, 1) := by decide +kernel
theorem dX10_has_1 : decode cX10_has 1 = .ok (.iload_n 1, 1) := by decide +kernel
theorem dX10_has_2 : decode cX10_has 2 = .ok (.ishr, 1) := by decide +kernel
theorem dX10_has_3 : decode cX10_has 3 = .ok (.iconst 1, 1) := by decide +kernel
theorem dX10_has_4 : decode cX10_has 4 = .ok (.iand, 1) := by decide +kernel
theorem dX10_has_5 : decode cX10_has 5 = .ok (.iconst 1, 1) := by decide +kernel
theorem dX10_has_6 : decode cX10_has 6 = .ok (.if_icmp .ne 7, 3) := by decide +kernel
theorem dX10_has_9 : decode cX10_has 9 = .ok (.iconst 1, 1) := by decide +kernel
theorem dX10_has_10 : decode cX10_has 10 = .ok (.goto 4, 3) := by decide +kernel
theorem dX10_has_13 : decode cX10_has 13 = .ok (.iconst 0, 1) := by decide +kernel
theorem dX10_has_14 : decode cX10_has 14 = .ok (.ireturn, 1) := by decide +kernel
theorem dX10_books_0 : decode cX10_books 0 = .ok (.iconst 0, 1) := by decide +kernel
theorem dX10_books_1 : decode cX10_books 1 = .ok (.istore_n 3, 1) := by decide +kernel
theorem dX10_books_2 : decode cX10_books 2 = .ok (.iload_n 3, 1) := by decide +kernel
theorem dX10_books_3 : decode cX10_books 3 = .ok (.bipush 6, 2) := by decide +kernel
theorem dX10_books_5 : decode cX10_books 5 = .ok (.if_icmp .ge 16, 3) := by decide +kernel
theorem dX10_books_8 : decode cX10_books 8 = .ok (.aload_n 0, 1) := by decide +kernel
theorem dX10_books_9 : decode cX10_books 9 = .ok (.getfield 81, 3) := by decide +kernel
theorem dX10_books_12 : decode cX10_books 12 = .ok (.iload_n 3, 1) := by decide +kernel
theorem dX10_books_13 : decode cX10_books 13 = .ok (.iconst (-1), 1) := by decide +kernel
theorem dX10_books_14 : decode cX10_books 14 = .ok (.iastore, 1) := by decide +kernel
theorem dX10_books_15 : decode cX10_books 15 = .ok (.iinc 3 1, 3) := by decide +kernel
theorem dX10_books_18 : decode cX10_books 18 = .ok (.goto (-16), 3) := by decide +kernel
theorem dX10_books_21 : decode cX10_books 21 = .ok (.iconst 1, 1) := by decide +kernel
theorem dX10_books_22 : decode cX10_books 22 = .ok (.istore_n 3, 1) := by decide +kernel
theorem dX10_books_23 : decode cX10_books 23 = .ok (.iload_n 3, 1) := by decide +kernel
theorem dX10_books_24 : decode cX10_books 24 = .ok (.ifCond .eq 184, 3) := by decide +kernel
theorem dX10_books_27 : decode cX10_books 27 = .ok (.iconst (-1), 1) := by decide +kernel
theorem dX10_books_28 : decode cX10_books 28 = .ok (.istore 4, 2) := by decide +kernel
theorem dX10_books_30 : decode cX10_books 30 = .ok (.iconst (-1), 1) := by decide +kernel
theorem dX10_books_31 : decode cX10_books 31 = .ok (.istore 5, 2) := by decide +kernel
theorem dX10_books_33 : decode cX10_books 33 = .ok (.iconst 0, 1) := by decide +kernel
theorem dX10_books_34 : decode cX10_books 34 = .ok (.istore 6, 2) := by decide +kernel
theorem dX10_books_36 : decode cX10_books 36 = .ok (.iload 6, 2) := by decide +kernel
theorem dX10_books_38 : decode cX10_books 38 = .ok (.aload_n 0, 1) := by decide +kernel
theorem dX10_books_39 : decode cX10_books 39 = .ok (.getfield 294, 3) := by decide +kernel
theorem dX10_books_42 : decode cX10_books 42 = .ok (.if_icmp .ge 129, 3) := by decide +kernel
theorem dX10_books_45 : decode cX10_books 45 = .ok (.iload 6, 2) := by decide +kernel
theorem dX10_books_47 : decode cX10_books 47 = .ok (.iconst 1, 1) := by decide +kernel
theorem dX10_books_48 : decode cX10_books 48 = .ok (.iadd, 1) := by decide +kernel
theorem dX10_books_49 : decode cX10_books 49 = .ok (.istore 7, 2) := by decide +kernel
theorem dX10_books_51 : decode cX10_books 51 = .ok (.iload 7, 2) := by decide +kernel
theorem dX10_books_53 : decode cX10_books 53 = .ok (.aload_n 0, 1) := by decide +kernel
theorem dX10_books_54 : decode cX10_books 54 = .ok (.getfield 294, 3) := by decide +kernel
theorem dX10_books_57 : decode cX10_books 57 = .ok (.if_icmp .ge 108, 3) := by decide +kernel
theorem dX10_books_60 : decode cX10_books 60 = .ok (.aload_n 0, 1) := by decide +kernel
theorem dX10_books_61 : decode cX10_books 61 = .ok (.getfield 81, 3) := by decide +kernel
theorem dX10_books_64 : decode cX10_books 64 = .ok (.iload 6, 2) := by decide +kernel
theorem dX10_books_66 : decode cX10_books 66 = .ok (.iaload, 1) := by decide +kernel
theorem dX10_books_67 : decode cX10_books 67 = .ok (.iconst (-1), 1) := by decide +kernel
theorem dX10_books_68 : decode cX10_books 68 = .ok (.if_icmp .ne 36, 3) := by decide +kernel
theorem dX10_books_71 : decode cX10_books 71 = .ok (.aload_n 0, 1) := by decide +kernel
theorem dX10_books_72 : decode cX10_books 72 = .ok (.getfield 81, 3) := by decide +kernel
theorem dX10_books_75 : decode cX10_books 75 = .ok (.iload 7, 2) := by decide +kernel
theorem dX10_books_77 : decode cX10_books 77 = .ok (.iaload, 1) := by decide +kernel
theorem dX10_books_78 : decode cX10_books 78 = .ok (.iconst (-1), 1) := by decide +kernel
theorem dX10_books_79 : decode cX10_books 79 = .ok (.if_icmp .ne 25, 3) := by decide +kernel
theorem dX10_books_82 : decode cX10_books 82 = .ok (.iload_n 2, 1) := by decide +kernel
theorem dX10_books_83 : decode cX10_books 83 = .ok (.iload 6, 2) := by decide +kernel
theorem dX10_books_85 : decode cX10_books 85 = .ok (.invokestatic 229, 3) := by decide +kernel
theorem dX10_books_88 : decode cX10_books 88 = .ok (.ifCond .ne 16, 3) := by decide +kernel
theorem dX10_books_91 : decode cX10_books 91 = .ok (.iload_n 2, 1) := by decide +kernel
theorem dX10_books_92 : decode cX10_books 92 = .ok (.iload 7, 2) := by decide +kernel
theorem dX10_books_94 : decode cX10_books 94 = .ok (.invokestatic 229, 3) := by decide +kernel
theorem dX10_books_97 : decode cX10_books 97 = .ok (.ifCond .ne 7, 3) := by decide +kernel
theorem dX10_books_100 : decode cX10_books 100 = .ok (.iconst 1, 1) := by decide +kernel
theorem dX10_books_101 : decode cX10_books 101 = .ok (.goto 4, 3) := by decide +kernel
theorem dX10_books_104 : decode cX10_books 104 = .ok (.iconst 0, 1) := by decide +kernel
theorem dX10_books_105 : decode cX10_books 105 = .ok (.istore 8, 2) := by decide +kernel
theorem dX10_books_107 : decode cX10_books 107 = .ok (.iload 8, 2) := by decide +kernel
theorem dX10_books_109 : decode cX10_books 109 = .ok (.ifCond .eq 50, 3) := by decide +kernel
theorem dX10_books_112 : decode cX10_books 112 = .ok (.aload_n 1, 1) := by decide +kernel
theorem dX10_books_113 : decode cX10_books 113 = .ok (.iload 6, 2) := by decide +kernel
theorem dX10_books_115 : decode cX10_books 115 = .ok (.iload 7, 2) := by decide +kernel
theorem dX10_books_117 : decode cX10_books 117 = .ok (.invokestatic 312, 3) := by decide +kernel
theorem dX10_books_120 : decode cX10_books 120 = .ok (.ifCond .eq 39, 3) := by decide +kernel
theorem dX10_books_123 : decode cX10_books 123 = .ok (.iload 4, 2) := by decide +kernel
theorem dX10_books_125 : decode cX10_books 125 = .ok (.iconst (-1), 1) := by decide +kernel
theorem dX10_books_126 : decode cX10_books 126 = .ok (.if_icmp .eq 25, 3) := by decide +kernel
theorem dX10_books_129 : decode cX10_books 129 = .ok (.aload_n 1, 1) := by decide +kernel
theorem dX10_books_130 : decode cX10_books 130 = .ok (.iload 6, 2) := by decide +kernel
theorem dX10_books_132 : decode cX10_books 132 = .ok (.iload 7, 2) := by decide +kernel
theorem dX10_books_134 : decode cX10_books 134 = .ok (.invokestatic 312, 3) := by decide +kernel
theorem dX10_books_137 : decode cX10_books 137 = .ok (.aload_n 1, 1) := by decide +kernel
theorem dX10_books_138 : decode cX10_books 138 = .ok (.iload 4, 2) := by decide +kernel
theorem dX10_books_140 : decode cX10_books 140 = .ok (.iload 5, 2) := by decide +kernel
theorem dX10_books_142 : decode cX10_books 142 = .ok (.invokestatic 312, 3) := by decide +kernel
theorem dX10_books_145 : decode cX10_books 145 = .ok (.if_icmp .gt 6, 3) := by decide +kernel
theorem dX10_books_148 : decode cX10_books 148 = .ok (.goto 11, 3) := by decide +kernel
theorem dX10_books_151 : decode cX10_books 151 = .ok (.iload 6, 2) := by decide +kernel
theorem dX10_books_153 : decode cX10_books 153 = .ok (.istore 4, 2) := by decide +kernel
theorem dX10_books_155 : decode cX10_books 155 = .ok (.iload 7, 2) := by decide +kernel
theorem dX10_books_157 : decode cX10_books 157 = .ok (.istore 5, 2) := by decide +kernel
theorem dX10_books_159 : decode cX10_books 159 = .ok (.iinc 7 1, 3) := by decide +kernel
theorem dX10_books_162 : decode cX10_books 162 = .ok (.goto (-111), 3) := by decide +kernel
theorem dX10_books_165 : decode cX10_books 165 = .ok (.iinc 6 1, 3) := by decide +kernel
theorem dX10_books_168 : decode cX10_books 168 = .ok (.goto (-132), 3) := by decide +kernel
theorem dX10_books_171 : decode cX10_books 171 = .ok (.iload 4, 2) := by decide +kernel
theorem dX10_books_173 : decode cX10_books 173 = .ok (.iconst (-1), 1) := by decide +kernel
theorem dX10_books_174 : decode cX10_books 174 = .ok (.if_icmp .eq 7, 3) := by decide +kernel
theorem dX10_books_177 : decode cX10_books 177 = .ok (.iconst 1, 1) := by decide +kernel
theorem dX10_books_178 : decode cX10_books 178 = .ok (.goto 4, 3) := by decide +kernel
theorem dX10_books_181 : decode cX10_books 181 = .ok (.iconst 0, 1) := by decide +kernel
theorem dX10_books_182 : decode cX10_books 182 = .ok (.istore_n 3, 1) := by decide +kernel
theorem dX10_books_183 : decode cX10_books 183 = .ok (.iload_n 3, 1) := by decide +kernel
theorem dX10_books_184 : decode cX10_books 184 = .ok (.ifCond .eq 21, 3) := by decide +kernel
theorem dX10_books_187 : decode cX10_books 187 = .ok (.aload_n 0, 1) := by decide +kernel
theorem dX10_books_188 : decode cX10_books 188 = .ok (.getfield 81, 3) := by decide +kernel
theorem dX10_books_191 : decode cX10_books 191 = .ok (.iload 4, 2) := by decide +kernel
theorem dX10_books_193 : decode cX10_books 193 = .ok (.iload 5, 2) := by decide +kernel
theorem dX10_books_195 : decode cX10_books 195 = .ok (.iastore, 1) := by decide +kernel
theorem dX10_books_196 : decode cX10_books 196 = .ok (.aload_n 0, 1) := by decide +kernel
theorem dX10_books_197 : decode cX10_books 197 = .ok (.getfield 81, 3) := by decide +kernel
theorem dX10_books_200 : decode cX10_books 200 = .ok (.iload 5, 2) := by decide +kernel
theorem dX10_books_202 : decode cX10_books 202 = .ok (.iload 4, 2) := by decide +kernel
theorem dX10_books_204 : decode cX10_books 204 = .ok (.iastore, 1) := by decide +kernel
theorem dX10_books_205 : decode cX10_books 205 = .ok (.goto (-182), 3) := by decide +kernel
theorem dX10_books_208 : decode cX10_books 208 = .ok (.return_, 1) := by decide +kernel
theorem dX10_breaks_0 : decode cX10_breaks 0 = .ok (.aload_n 0, 1) := by decide +kernel
theorem dX10_breaks_1 : decode cX10_breaks 1 = .ok (.dup, 1) := by decide +kernel
theorem dX10_breaks_2 : decode cX10_breaks 2 = .ok (.getfield 344, 3) := by decide +kernel
theorem dX10_breaks_5 : decode cX10_breaks 5 = .ok (.iconst 1, 1) := by decide +kernel
theorem dX10_breaks_6 : decode cX10_breaks 6 = .ok (.iload_n 2, 1) := by decide +kernel
theorem dX10_breaks_7 : decode cX10_breaks 7 = .ok (.ishl, 1) := by decide +kernel
theorem dX10_breaks_8 : decode cX10_breaks 8 = .ok (.ior, 1) := by decide +kernel
theorem dX10_breaks_9 : decode cX10_breaks 9 = .ok (.putfield 344, 3) := by decide +kernel
theorem dX10_breaks_12 : decode cX10_breaks 12 = .ok (.aload_n 1, 1) := by decide +kernel
theorem dX10_breaks_13 : decode cX10_breaks 13 = .ok (.bipush 50, 2) := by decide +kernel
theorem dX10_breaks_15 : decode cX10_breaks 15 = .ok (.dup2, 1) := by decide +kernel
theorem dX10_breaks_16 : decode cX10_breaks 16 = .ok (.iaload, 1) := by decide +kernel
theorem dX10_breaks_17 : decode cX10_breaks 17 = .ok (.iconst 1, 1) := by decide +kernel
theorem dX10_breaks_18 : decode cX10_breaks 18 = .ok (.iadd, 1) := by decide +kernel
theorem dX10_breaks_19 : decode cX10_breaks 19 = .ok (.iastore, 1) := by decide +kernel
theorem dX10_breaks_20 : decode cX10_breaks 20 = .ok (.iconst 0, 1) := by decide +kernel
theorem dX10_breaks_21 : decode cX10_breaks 21 = .ok (.istore_n 3, 1) := by decide +kernel
theorem dX10_breaks_22 : decode cX10_breaks 22 = .ok (.iload_n 3, 1) := by decide +kernel
theorem dX10_breaks_23 : decode cX10_breaks 23 = .ok (.aload_n 0, 1) := by decide +kernel
theorem dX10_breaks_24 : decode cX10_breaks 24 = .ok (.getfield 294, 3) := by decide +kernel
theorem dX10_breaks_27 : decode cX10_breaks 27 = .ok (.if_icmp .ge 21, 3) := by decide +kernel
theorem dX10_breaks_30 : decode cX10_breaks 30 = .ok (.iload_n 3, 1) := by decide +kernel
theorem dX10_breaks_31 : decode cX10_breaks 31 = .ok (.iload_n 2, 1) := by decide +kernel
theorem dX10_breaks_32 : decode cX10_breaks 32 = .ok (.if_icmp .eq 10, 3) := by decide +kernel
theorem dX10_breaks_35 : decode cX10_breaks 35 = .ok (.aload_n 1, 1) := by decide +kernel
theorem dX10_breaks_36 : decode cX10_breaks 36 = .ok (.iload_n 2, 1) := by decide +kernel
theorem dX10_breaks_37 : decode cX10_breaks 37 = .ok (.iload_n 3, 1) := by decide +kernel
theorem dX10_breaks_38 : decode cX10_breaks 38 = .ok (.iconst 1, 1) := by decide +kernel
theorem dX10_breaks_39 : decode cX10_breaks 39 = .ok (.invokestatic 347, 3) := by decide +kernel
theorem dX10_breaks_42 : decode cX10_breaks 42 = .ok (.iinc 3 1, 3) := by decide +kernel
theorem dX10_breaks_45 : decode cX10_breaks 45 = .ok (.goto (-23), 3) := by decide +kernel
theorem dX10_breaks_48 : decode cX10_breaks 48 = .ok (.aload_n 1, 1) := by decide +kernel
theorem dX10_breaks_49 : decode cX10_breaks 49 = .ok (.bipush 36, 2) := by decide +kernel
theorem dX10_breaks_51 : decode cX10_breaks 51 = .ok (.iconst 2, 1) := by decide +kernel
theorem dX10_breaks_52 : decode cX10_breaks 52 = .ok (.iload_n 2, 1) := by decide +kernel
theorem dX10_breaks_53 : decode cX10_breaks 53 = .ok (.imul, 1) := by decide +kernel
theorem dX10_breaks_54 : decode cX10_breaks 54 = .ok (.iadd, 1) := by decide +kernel
theorem dX10_breaks_55 : decode cX10_breaks 55 = .ok (.iconst 0, 1) := by decide +kernel
theorem dX10_breaks_56 : decode cX10_breaks 56 = .ok (.iadd, 1) := by decide +kernel
theorem dX10_breaks_57 : decode cX10_breaks 57 = .ok (.iconst 5, 1) := by decide +kernel
theorem dX10_breaks_58 : decode cX10_breaks 58 = .ok (.iastore, 1) := by decide +kernel
theorem dX10_breaks_59 : decode cX10_breaks 59 = .ok (.return_, 1) := by decide +kernel
theorem dX10_goEvening_0 : decode cX10_goEvening 0 = .ok (.aload_n 0, 1) := by decide +kernel
theorem dX10_goEvening_1 : decode cX10_goEvening 1 = .ok (.aload_n 1, 1) := by decide +kernel
theorem dX10_goEvening_2 : decode cX10_goEvening 2 = .ok (.iload_n 2, 1) := by decide +kernel
theorem dX10_goEvening_3 : decode cX10_goEvening 3 = .ok (.invokevirtual 350, 3) := by decide +kernel
theorem dX10_goEvening_6 : decode cX10_goEvening 6 = .ok (.aload_n 0, 1) := by decide +kernel
theorem dX10_goEvening_7 : decode cX10_goEvening 7 = .ok (.iconst 0, 1) := by decide +kernel
theorem dX10_goEvening_8 : decode cX10_goEvening 8 = .ok (.putfield 354, 3) := by decide +kernel
theorem dX10_goEvening_11 : decode cX10_goEvening 11 = .ok (.aload_n 0, 1) := by decide +kernel
theorem dX10_goEvening_12 : decode cX10_goEvening 12 = .ok (.iconst 0, 1) := by decide +kernel
theorem dX10_goEvening_13 : decode cX10_goEvening 13 = .ok (.putfield 344, 3) := by decide +kernel
theorem dX10_goEvening_16 : decode cX10_goEvening 16 = .ok (.iconst 0, 1) := by decide +kernel
theorem dX10_goEvening_17 : decode cX10_goEvening 17 = .ok (.istore_n 3, 1) := by decide +kernel
theorem dX10_goEvening_18 : decode cX10_goEvening 18 = .ok (.iload_n 3, 1) := by decide +kernel
theorem dX10_goEvening_19 : decode cX10_goEvening 19 = .ok (.aload_n 0, 1) := by decide +kernel
theorem dX10_goEvening_20 : decode cX10_goEvening 20 = .ok (.getfield 294, 3) := by decide +kernel
theorem dX10_goEvening_23 : decode cX10_goEvening 23 = .ok (.if_icmp .ge 87, 3) := by decide +kernel
theorem dX10_goEvening_26 : decode cX10_goEvening 26 = .ok (.aload_n 0, 1) := by decide +kernel
theorem dX10_goEvening_27 : decode cX10_goEvening 27 = .ok (.getfield 81, 3) := by decide +kernel
theorem dX10_goEvening_30 : decode cX10_goEvening 30 = .ok (.iload_n 3, 1) := by decide +kernel
theorem dX10_goEvening_31 : decode cX10_goEvening 31 = .ok (.iaload, 1) := by decide +kernel
theorem dX10_goEvening_32 : decode cX10_goEvening 32 = .ok (.iconst (-1), 1) := by decide +kernel
theorem dX10_goEvening_33 : decode cX10_goEvening 33 = .ok (.if_icmp .ne 6, 3) := by decide +kernel
theorem dX10_goEvening_36 : decode cX10_goEvening 36 = .ok (.goto 68, 3) := by decide +kernel
theorem dX10_goEvening_39 : decode cX10_goEvening 39 = .ok (.aload_n 0, 1) := by decide +kernel
theorem dX10_goEvening_40 : decode cX10_goEvening 40 = .ok (.dup, 1) := by decide +kernel
theorem dX10_goEvening_41 : decode cX10_goEvening 41 = .ok (.getfield 354, 3) := by decide +kernel
theorem dX10_goEvening_44 : decode cX10_goEvening 44 = .ok (.iconst 1, 1) := by decide +kernel
theorem dX10_goEvening_45 : decode cX10_goEvening 45 = .ok (.iadd, 1) := by decide +kernel
theorem dX10_goEvening_46 : decode cX10_goEvening 46 = .ok (.putfield 354, 3) := by decide +kernel
theorem dX10_goEvening_49 : decode cX10_goEvening 49 = .ok (.aload_n 1, 1) := by decide +kernel
theorem dX10_goEvening_50 : decode cX10_goEvening 50 = .ok (.bipush 36, 2) := by decide +kernel
theorem dX10_goEvening_52 : decode cX10_goEvening 52 = .ok (.iconst 2, 1) := by decide +kernel
theorem dX10_goEvening_53 : decode cX10_goEvening 53 = .ok (.iload_n 3, 1) := by decide +kernel
theorem dX10_goEvening_54 : decode cX10_goEvening 54 = .ok (.imul, 1) := by decide +kernel
theorem dX10_goEvening_55 : decode cX10_goEvening 55 = .ok (.iadd, 1) := by decide +kernel
theorem dX10_goEvening_56 : decode cX10_goEvening 56 = .ok (.iconst 0, 1) := by decide +kernel
theorem dX10_goEvening_57 : decode cX10_goEvening 57 = .ok (.iadd, 1) := by decide +kernel
theorem dX10_goEvening_58 : decode cX10_goEvening 58 = .ok (.iconst 0, 1) := by decide +kernel
theorem dX10_goEvening_59 : decode cX10_goEvening 59 = .ok (.aload_n 1, 1) := by decide +kernel
theorem dX10_goEvening_60 : decode cX10_goEvening 60 = .ok (.iload_n 3, 1) := by decide +kernel
theorem dX10_goEvening_61 : decode cX10_goEvening 61 = .ok (.invokestatic 334, 3) := by decide +kernel
theorem dX10_goEvening_64 : decode cX10_goEvening 64 = .ok (.iconst 1, 1) := by decide +kernel
theorem dX10_goEvening_65 : decode cX10_goEvening 65 = .ok (.isub, 1) := by decide +kernel
theorem dX10_goEvening_66 : decode cX10_goEvening 66 = .ok (.invokestatic 332, 3) := by decide +kernel
theorem dX10_goEvening_69 : decode cX10_goEvening 69 = .ok (.iastore, 1) := by decide +kernel
theorem dX10_goEvening_70 : decode cX10_goEvening 70 = .ok (.aload_n 0, 1) := by decide +kernel
theorem dX10_goEvening_71 : decode cX10_goEvening 71 = .ok (.getfield 81, 3) := by decide +kernel
theorem dX10_goEvening_74 : decode cX10_goEvening 74 = .ok (.iload_n 3, 1) := by decide +kernel
theorem dX10_goEvening_75 : decode cX10_goEvening 75 = .ok (.iaload, 1) := by decide +kernel
theorem dX10_goEvening_76 : decode cX10_goEvening 76 = .ok (.iload_n 3, 1) := by decide +kernel
theorem dX10_goEvening_77 : decode cX10_goEvening 77 = .ok (.if_icmp .le 27, 3) := by decide +kernel
theorem dX10_goEvening_80 : decode cX10_goEvening 80 = .ok (.aload_n 1, 1) := by decide +kernel
theorem dX10_goEvening_81 : decode cX10_goEvening 81 = .ok (.iload_n 3, 1) := by decide +kernel
theorem dX10_goEvening_82 : decode cX10_goEvening 82 = .ok (.aload_n 0, 1) := by decide +kernel
theorem dX10_goEvening_83 : decode cX10_goEvening 83 = .ok (.getfield 81, 3) := by decide +kernel
theorem dX10_goEvening_86 : decode cX10_goEvening 86 = .ok (.iload_n 3, 1) := by decide +kernel
theorem dX10_goEvening_87 : decode cX10_goEvening 87 = .ok (.iaload, 1) := by decide +kernel
theorem dX10_goEvening_88 : decode cX10_goEvening 88 = .ok (.aload_n 1, 1) := by decide +kernel
theorem dX10_goEvening_89 : decode cX10_goEvening 89 = .ok (.iload_n 3, 1) := by decide +kernel
theorem dX10_goEvening_90 : decode cX10_goEvening 90 = .ok (.aload_n 0, 1) := by decide +kernel
theorem dX10_goEvening_91 : decode cX10_goEvening 91 = .ok (.getfield 81, 3) := by decide +kernel
theorem dX10_goEvening_94 : decode cX10_goEvening 94 = .ok (.iload_n 3, 1) := by decide +kernel
theorem dX10_goEvening_95 : decode cX10_goEvening 95 = .ok (.iaload, 1) := by decide +kernel
theorem dX10_goEvening_96 : decode cX10_goEvening 96 = .ok (.invokestatic 312, 3) := by decide +kernel
theorem dX10_goEvening_99 : decode cX10_goEvening 99 = .ok (.iconst 1, 1) := by decide +kernel
theorem dX10_goEvening_100 : decode cX10_goEvening 100 = .ok (.isub, 1) := by decide +kernel
theorem dX10_goEvening_101 : decode cX10_goEvening 101 = .ok (.invokestatic 318, 3) := by decide +kernel
theorem dX10_goEvening_104 : decode cX10_goEvening 104 = .ok (.iinc 3 1, 3) := by decide +kernel
theorem dX10_goEvening_107 : decode cX10_goEvening 107 = .ok (.goto (-89), 3) := by decide +kernel
theorem dX10_goEvening_110 : decode cX10_goEvening 110 = .ok (.iconst 0, 1) := by decide +kernel
theorem dX10_goEvening_111 : decode cX10_goEvening 111 = .ok (.istore_n 3, 1) := by decide +kernel
theorem dX10_goEvening_112 : decode cX10_goEvening 112 = .ok (.iload_n 3, 1) := by decide +kernel
theorem dX10_goEvening_113 : decode cX10_goEvening 113 = .ok (.aload_n 0, 1) := by decide +kernel
theorem dX10_goEvening_114 : decode cX10_goEvening 114 = .ok (.getfield 294, 3) := by decide +kernel
theorem dX10_goEvening_117 : decode cX10_goEvening 117 = .ok (.if_icmp .ge 55, 3) := by decide +kernel
theorem dX10_goEvening_120 : decode cX10_goEvening 120 = .ok (.aload_n 0, 1) := by decide +kernel
theorem dX10_goEvening_121 : decode cX10_goEvening 121 = .ok (.getfield 81, 3) := by decide +kernel
theorem dX10_goEvening_124 : decode cX10_goEvening 124 = .ok (.iload_n 3, 1) := by decide +kernel
theorem dX10_goEvening_125 : decode cX10_goEvening 125 = .ok (.iaload, 1) := by decide +kernel
theorem dX10_goEvening_126 : decode cX10_goEvening 126 = .ok (.iconst (-1), 1) := by decide +kernel
theorem dX10_goEvening_127 : decode cX10_goEvening 127 = .ok (.if_icmp .eq 6, 3) := by decide +kernel
theorem dX10_goEvening_130 : decode cX10_goEvening 130 = .ok (.goto 36, 3) := by decide +kernel
theorem dX10_goEvening_133 : decode cX10_goEvening 133 = .ok (.aload_n 1, 1) := by decide +kernel
theorem dX10_goEvening_134 : decode cX10_goEvening 134 = .ok (.iload_n 3, 1) := by decide +kernel
theorem dX10_goEvening_135 : decode cX10_goEvening 135 = .ok (.invokestatic 334, 3) := by decide +kernel
theorem dX10_goEvening_138 : decode cX10_goEvening 138 = .ok (.bipush 9, 2) := by decide +kernel
theorem dX10_goEvening_140 : decode cX10_goEvening 140 = .ok (.if_icmp .ne 12, 3) := by decide +kernel
theorem dX10_goEvening_143 : decode cX10_goEvening 143 = .ok (.aload_n 0, 1) := by decide +kernel
theorem dX10_goEvening_144 : decode cX10_goEvening 144 = .ok (.aload_n 1, 1) := by decide +kernel
theorem dX10_goEvening_145 : decode cX10_goEvening 145 = .ok (.iload_n 3, 1) := by decide +kernel
theorem dX10_goEvening_146 : decode cX10_goEvening 146 = .ok (.invokevirtual 357, 3) := by decide +kernel
theorem dX10_goEvening_149 : decode cX10_goEvening 149 = .ok (.goto 17, 3) := by decide +kernel
theorem dX10_goEvening_152 : decode cX10_goEvening 152 = .ok (.aload_n 1, 1) := by decide +kernel
theorem dX10_goEvening_153 : decode cX10_goEvening 153 = .ok (.bipush 36, 2) := by decide +kernel
theorem dX10_goEvening_155 : decode cX10_goEvening 155 = .ok (.iconst 2, 1) := by decide +kernel
theorem dX10_goEvening_156 : decode cX10_goEvening 156 = .ok (.iload_n 3, 1) := by decide +kernel
theorem dX10_goEvening_157 : decode cX10_goEvening 157 = .ok (.imul, 1) := by decide +kernel
theorem dX10_goEvening_158 : decode cX10_goEvening 158 = .ok (.iadd, 1) := by decide +kernel
theorem dX10_goEvening_159 : decode cX10_goEvening 159 = .ok (.iconst 0, 1) := by decide +kernel
theorem dX10_goEvening_160 : decode cX10_goEvening 160 = .ok (.iadd, 1) := by decide +kernel
theorem dX10_goEvening_161 : decode cX10_goEvening 161 = .ok (.dup2, 1) := by decide +kernel
theorem dX10_goEvening_162 : decode cX10_goEvening 162 = .ok (.iaload, 1) := by decide +kernel
theorem dX10_goEvening_163 : decode cX10_goEvening 163 = .ok (.iconst 1, 1) := by decide +kernel
theorem dX10_goEvening_164 : decode cX10_goEvening 164 = .ok (.iadd, 1) := by decide +kernel
theorem dX10_goEvening_165 : decode cX10_goEvening 165 = .ok (.iastore, 1) := by decide +kernel
theorem dX10_goEvening_166 : decode cX10_goEvening 166 = .ok (.iinc 3 1, 3) := by decide +kernel
theorem dX10_goEvening_169 : decode cX10_goEvening 169 = .ok (.goto (-57), 3) := by decide +kernel
theorem dX10_goEvening_172 : decode cX10_goEvening 172 = .ok (.aload_n 1, 1) := by decide +kernel
theorem dX10_goEvening_173 : decode cX10_goEvening 173 = .ok (.bipush 51, 2) := by decide +kernel
theorem dX10_goEvening_175 : decode cX10_goEvening 175 = .ok (.dup2, 1) := by decide +kernel
theorem dX10_goEvening_176 : decode cX10_goEvening 176 = .ok (.iaload, 1) := by decide +kernel
theorem dX10_goEvening_177 : decode cX10_goEvening 177 = .ok (.iconst 1, 1) := by decide +kernel
theorem dX10_goEvening_178 : decode cX10_goEvening 178 = .ok (.iadd, 1) := by decide +kernel
theorem dX10_goEvening_179 : decode cX10_goEvening 179 = .ok (.iastore, 1) := by decide +kernel
theorem dX10_goEvening_180 : decode cX10_goEvening 180 = .ok (.aload_n 1, 1) := by decide +kernel
theorem dX10_goEvening_181 : decode cX10_goEvening 181 = .ok (.bipush 52, 2) := by decide +kernel
theorem dX10_goEvening_183 : decode cX10_goEvening 183 = .ok (.iaload, 1) := by decide +kernel
theorem dX10_goEvening_184 : decode cX10_goEvening 184 = .ok (.bipush 60, 2) := by decide +kernel
theorem dX10_goEvening_186 : decode cX10_goEvening 186 = .ok (.if_icmp .ne 40, 3) := by decide +kernel
theorem dX10_goEvening_189 : decode cX10_goEvening 189 = .ok (.iconst 1, 1) := by decide +kernel
theorem dX10_goEvening_190 : decode cX10_goEvening 190 = .ok (.istore_n 3, 1) := by decide +kernel
theorem dX10_goEvening_191 : decode cX10_goEvening 191 = .ok (.iload_n 3, 1) := by decide +kernel
theorem dX10_goEvening_192 : decode cX10_goEvening 192 = .ok (.sipush 177, 3) := by decide +kernel
theorem dX10_goEvening_195 : decode cX10_goEvening 195 = .ok (.if_icmp .gt 23, 3) := by decide +kernel
theorem dX10_goEvening_198 : decode cX10_goEvening 198 = .ok (.aload_n 1, 1) := by decide +kernel
theorem dX10_goEvening_199 : decode cX10_goEvening 199 = .ok (.bipush 52, 2) := by decide +kernel
theorem dX10_goEvening_201 : decode cX10_goEvening 201 = .ok (.iload_n 3, 1) := by decide +kernel
theorem dX10_goEvening_202 : decode cX10_goEvening 202 = .ok (.iadd, 1) := by decide +kernel
theorem dX10_goEvening_203 : decode cX10_goEvening 203 = .ok (.aload_n 1, 1) := by decide +kernel
theorem dX10_goEvening_204 : decode cX10_goEvening 204 = .ok (.bipush 52, 2) := by decide +kernel
theorem dX10_goEvening_206 : decode cX10_goEvening 206 = .ok (.iload_n 3, 1) := by decide +kernel
theorem dX10_goEvening_207 : decode cX10_goEvening 207 = .ok (.iadd, 1) := by decide +kernel
theorem dX10_goEvening_208 : decode cX10_goEvening 208 = .ok (.iconst 3, 1) := by decide +kernel
theorem dX10_goEvening_209 : decode cX10_goEvening 209 = .ok (.iadd, 1) := by decide +kernel
theorem dX10_goEvening_210 : decode cX10_goEvening 210 = .ok (.iaload, 1) := by decide +kernel
theorem dX10_goEvening_211 : decode cX10_goEvening 211 = .ok (.iastore, 1) := by decide +kernel
theorem dX10_goEvening_212 : decode cX10_goEvening 212 = .ok (.iinc 3 1, 3) := by decide +kernel
theorem dX10_goEvening_215 : decode cX10_goEvening 215 = .ok (.goto (-24), 3) := by decide +kernel
theorem dX10_goEvening_218 : decode cX10_goEvening 218 = .ok (.aload_n 1, 1) := by decide +kernel
theorem dX10_goEvening_219 : decode cX10_goEvening 219 = .ok (.bipush 52, 2) := by decide +kernel
theorem dX10_goEvening_221 : decode cX10_goEvening 221 = .ok (.dup2, 1) := by decide +kernel
theorem dX10_goEvening_222 : decode cX10_goEvening 222 = .ok (.iaload, 1) := by decide +kernel
theorem dX10_goEvening_223 : decode cX10_goEvening 223 = .ok (.iconst 1, 1) := by decide +kernel
theorem dX10_goEvening_224 : decode cX10_goEvening 224 = .ok (.isub, 1) := by decide +kernel
theorem dX10_goEvening_225 : decode cX10_goEvening 225 = .ok (.iastore, 1) := by decide +kernel
theorem dX10_goEvening_226 : decode cX10_goEvening 226 = .ok (.bipush 53, 2) := by decide +kernel
theorem dX10_goEvening_228 : decode cX10_goEvening 228 = .ok (.iconst 3, 1) := by decide +kernel
theorem dX10_goEvening_229 : decode cX10_goEvening 229 = .ok (.aload_n 1, 1) := by decide +kernel
theorem dX10_goEvening_230 : decode cX10_goEvening 230 = .ok (.bipush 52, 2) := by decide +kernel
theorem dX10_goEvening_232 : decode cX10_goEvening 232 = .ok (.iaload, 1) := by decide +kernel
theorem dX10_goEvening_233 : decode cX10_goEvening 233 = .ok (.imul, 1) := by decide +kernel
theorem dX10_goEvening_234 : decode cX10_goEvening 234 = .ok (.iadd, 1) := by decide +kernel
theorem dX10_goEvening_235 : decode cX10_goEvening 235 = .ok (.istore_n 3, 1) := by decide +kernel
theorem dX10_goEvening_236 : decode cX10_goEvening 236 = .ok (.aload_n 1, 1) := by decide +kernel
theorem dX10_goEvening_237 : decode cX10_goEvening 237 = .ok (.iload_n 3, 1) := by decide +kernel
theorem dX10_goEvening_238 : decode cX10_goEvening 238 = .ok (.aload_n 0, 1) := by decide +kernel
theorem dX10_goEvening_239 : decode cX10_goEvening 239 = .ok (.getfield 354, 3) := by decide +kernel
theorem dX10_goEvening_242 : decode cX10_goEvening 242 = .ok (.iastore, 1) := by decide +kernel
theorem dX10_goEvening_243 : decode cX10_goEvening 243 = .ok (.aload_n 1, 1) := by decide +kernel
theorem dX10_goEvening_244 : decode cX10_goEvening 244 = .ok (.iload_n 3, 1) := by decide +kernel
theorem dX10_goEvening_245 : decode cX10_goEvening 245 = .ok (.iconst 1, 1) := by decide +kernel
theorem dX10_goEvening_246 : decode cX10_goEvening 246 = .ok (.iadd, 1) := by decide +kernel
theorem dX10_goEvening_247 : decode cX10_goEvening 247 = .ok (.aload_n 0, 1) := by decide +kernel
theorem dX10_goEvening_248 : decode cX10_goEvening 248 = .ok (.getfield 344, 3) := by decide +kernel
theorem dX10_goEvening_251 : decode cX10_goEvening 251 = .ok (.iastore, 1) := by decide +kernel
theorem dX10_goEvening_252 : decode cX10_goEvening 252 = .ok (.aload_n 1, 1) := by decide +kernel
theorem dX10_goEvening_253 : decode cX10_goEvening 253 = .ok (.iload_n 3, 1) := by decide +kernel
theorem dX10_goEvening_254 : decode cX10_goEvening 254 = .ok (.iconst 2, 1) := by decide +kernel
theorem dX10_goEvening_255 : decode cX10_goEvening 255 = .ok (.iadd, 1) := by decide +kernel
theorem dX10_goEvening_256 : decode cX10_goEvening 256 = .ok (.aload_n 0, 1) := by decide +kernel
theorem dX10_goEvening_257 : decode cX10_goEvening 257 = .ok (.aload_n 1, 1) := by decide +kernel
theorem dX10_goEvening_258 : decode cX10_goEvening 258 = .ok (.invokevirtual 360, 3) := by decide +kernel
theorem dX10_goEvening_261 : decode cX10_goEvening 261 = .ok (.iastore, 1) := by decide +kernel
theorem dX10_goEvening_262 : decode cX10_goEvening 262 = .ok (.aload_n 1, 1) := by decide +kernel
theorem dX10_goEvening_263 : decode cX10_goEvening 263 = .ok (.bipush 52, 2) := by decide +kernel
theorem dX10_goEvening_265 : decode cX10_goEvening 265 = .ok (.dup2, 1) := by decide +kernel
theorem dX10_goEvening_266 : decode cX10_goEvening 266 = .ok (.iaload, 1) := by decide +kernel
theorem dX10_goEvening_267 : decode cX10_goEvening 267 = .ok (.iconst 1, 1) := by decide +kernel
theorem dX10_goEvening_268 : decode cX10_goEvening 268 = .ok (.iadd, 1) := by decide +kernel
theorem dX10_goEvening_269 : decode cX10_goEvening 269 = .ok (.iastore, 1) := by decide +kernel
theorem dX10_goEvening_270 : decode cX10_goEvening 270 = .ok (.aload_n 0, 1) := by decide +kernel
theorem dX10_goEvening_271 : decode cX10_goEvening 271 = .ok (.getfield 354, 3) := by decide +kernel
theorem dX10_goEvening_274 : decode cX10_goEvening 274 = .ok (.ireturn, 1) := by decide +kernel
theorem dX10_never_0 : decode cX10_never 0 = .ok (.aload_n 0, 1) := by decide +kernel
theorem dX10_never_1 : decode cX10_never 1 = .ok (.getfield 61, 3) := by decide +kernel
theorem dX10_never_4 : decode cX10_never 4 = .ok (.aload_n 0, 1) := by decide +kernel
theorem dX10_never_5 : decode cX10_never 5 = .ok (.getfield 64, 3) := by decide +kernel
theorem dX10_never_8 : decode cX10_never 8 = .ok (.invokestatic 429, 3) := by decide +kernel
theorem dX10_never_11 : decode cX10_never 11 = .ok (.iconst 1, 1) := by decide +kernel
theorem dX10_never_12 : decode cX10_never 12 = .ok (.aload_n 0, 1) := by decide +kernel
theorem dX10_never_13 : decode cX10_never 13 = .ok (.getfield 294, 3) := by decide +kernel
theorem dX10_never_16 : decode cX10_never 16 = .ok (.ishl, 1) := by decide +kernel
theorem dX10_never_17 : decode cX10_never 17 = .ok (.iconst 1, 1) := by decide +kernel
theorem dX10_never_18 : decode cX10_never 18 = .ok (.isub, 1) := by decide +kernel
theorem dX10_never_19 : decode cX10_never 19 = .ok (.istore_n 1, 1) := by decide +kernel
theorem dX10_never_20 : decode cX10_never 20 = .ok (.iconst 0, 1) := by decide +kernel
theorem dX10_never_21 : decode cX10_never 21 = .ok (.istore_n 2, 1) := by decide +kernel
theorem dX10_never_22 : decode cX10_never 22 = .ok (.iload_n 2, 1) := by decide +kernel
theorem dX10_never_23 : decode cX10_never 23 = .ok (.bipush 20, 2) := by decide +kernel
theorem dX10_never_25 : decode cX10_never 25 = .ok (.if_icmp .ge 57, 3) := by decide +kernel
theorem dX10_never_28 : decode cX10_never 28 = .ok (.aload_n 0, 1) := by decide +kernel
theorem dX10_never_29 : decode cX10_never 29 = .ok (.aload_n 0, 1) := by decide +kernel
theorem dX10_never_30 : decode cX10_never 30 = .ok (.getfield 64, 3) := by decide +kernel
theorem dX10_never_33 : decode cX10_never 33 = .ok (.iconst 0, 1) := by decide +kernel
theorem dX10_never_34 : decode cX10_never 34 = .ok (.invokevirtual 390, 3) := by decide +kernel
theorem dX10_never_37 : decode cX10_never 37 = .ok (.istore_n 3, 1) := by decide +kernel
theorem dX10_never_38 : decode cX10_never 38 = .ok (.iconst 0, 1) := by decide +kernel
theorem dX10_never_39 : decode cX10_never 39 = .ok (.istore 4, 2) := by decide +kernel
theorem dX10_never_41 : decode cX10_never 41 = .ok (.iload 4, 2) := by decide +kernel
theorem dX10_never_43 : decode cX10_never 43 = .ok (.aload_n 0, 1) := by decide +kernel
theorem dX10_never_44 : decode cX10_never 44 = .ok (.getfield 294, 3) := by decide +kernel
theorem dX10_never_47 : decode cX10_never 47 = .ok (.if_icmp .ge 29, 3) := by decide +kernel
theorem dX10_never_50 : decode cX10_never 50 = .ok (.aload_n 0, 1) := by decide +kernel
theorem dX10_never_51 : decode cX10_never 51 = .ok (.getfield 81, 3) := by decide +kernel
theorem dX10_never_54 : decode cX10_never 54 = .ok (.iload 4, 2) := by decide +kernel
theorem dX10_never_56 : decode cX10_never 56 = .ok (.iaload, 1) := by decide +kernel
theorem dX10_never_57 : decode cX10_never 57 = .ok (.iconst (-1), 1) := by decide +kernel
theorem dX10_never_58 : decode cX10_never 58 = .ok (.if_icmp .eq 12, 3) := by decide +kernel
theorem dX10_never_61 : decode cX10_never 61 = .ok (.iload_n 1, 1) := by decide +kernel
theorem dX10_never_62 : decode cX10_never 62 = .ok (.iconst 1, 1) := by decide +kernel
theorem dX10_never_63 : decode cX10_never 63 = .ok (.iload 4, 2) := by decide +kernel
theorem dX10_never_65 : decode cX10_never 65 = .ok (.ishl, 1) := by decide +kernel
theorem dX10_never_66 : decode cX10_never 66 = .ok (.iconst (-1), 1) := by decide +kernel
theorem dX10_never_67 : decode cX10_never 67 = .ok (.ixor, 1) := by decide +kernel
theorem dX10_never_68 : decode cX10_never 68 = .ok (.iand, 1) := by decide +kernel
theorem dX10_never_69 : decode cX10_never 69 = .ok (.istore_n 1, 1) := by decide +kernel
theorem dX10_never_70 : decode cX10_never 70 = .ok (.iinc 4 1, 3) := by decide +kernel
theorem dX10_never_73 : decode cX10_never 73 = .ok (.goto (-32), 3) := by decide +kernel
theorem dX10_never_76 : decode cX10_never 76 = .ok (.iinc 2 1, 3) := by decide +kernel
theorem dX10_never_79 : decode cX10_never 79 = .ok (.goto (-57), 3) := by decide +kernel
theorem dX10_never_82 : decode cX10_never 82 = .ok (.iload_n 1, 1) := by decide +kernel
theorem dX10_never_83 : decode cX10_never 83 = .ok (.ireturn, 1) := by decide +kernel
theorem dX10_areParty_0 : decode cX10_areParty 0 = .ok (.iconst 0, 1) := by decide +kernel
theorem dX10_areParty_1 : decode cX10_areParty 1 = .ok (.istore_n 2, 1) := by decide +kernel
theorem dX10_areParty_2 : decode cX10_areParty 2 = .ok (.iload_n 2, 1) := by decide +kernel
theorem dX10_areParty_3 : decode cX10_areParty 3 = .ok (.aload_n 0, 1) := by decide +kernel
theorem dX10_areParty_4 : decode cX10_areParty 4 = .ok (.getfield 294, 3) := by decide +kernel
theorem dX10_areParty_7 : decode cX10_areParty 7 = .ok (.if_icmp .ge 57, 3) := by decide +kernel
theorem dX10_areParty_10 : decode cX10_areParty 10 = .ok (.iload_n 2, 1) := by decide +kernel
theorem dX10_areParty_11 : decode cX10_areParty 11 = .ok (.iconst 1, 1) := by decide +kernel
theorem dX10_areParty_12 : decode cX10_areParty 12 = .ok (.iadd, 1) := by decide +kernel
theorem dX10_areParty_13 : decode cX10_areParty 13 = .ok (.istore_n 3, 1) := by decide +kernel
theorem dX10_areParty_14 : decode cX10_areParty 14 = .ok (.iload_n 3, 1) := by decide +kernel
theorem dX10_areParty_15 : decode cX10_areParty 15 = .ok (.aload_n 0, 1) := by decide +kernel
theorem dX10_areParty_16 : decode cX10_areParty 16 = .ok (.getfield 294, 3) := by decide +kernel
theorem dX10_areParty_19 : decode cX10_areParty 19 = .ok (.if_icmp .ge 39, 3) := by decide +kernel
theorem dX10_areParty_22 : decode cX10_areParty 22 = .ok (.iload_n 1, 1) := by decide +kernel
theorem dX10_areParty_23 : decode cX10_areParty 23 = .ok (.iload_n 2, 1) := by decide +kernel
theorem dX10_areParty_24 : decode cX10_areParty 24 = .ok (.invokestatic 229, 3) := by decide +kernel
theorem dX10_areParty_27 : decode cX10_areParty 27 = .ok (.ifCond .eq 25, 3) := by decide +kernel
theorem dX10_areParty_30 : decode cX10_areParty 30 = .ok (.iload_n 1, 1) := by decide +kernel
theorem dX10_areParty_31 : decode cX10_areParty 31 = .ok (.iload_n 3, 1) := by decide +kernel
theorem dX10_areParty_32 : decode cX10_areParty 32 = .ok (.invokestatic 229, 3) := by decide +kernel
theorem dX10_areParty_35 : decode cX10_areParty 35 = .ok (.ifCond .eq 17, 3) := by decide +kernel
theorem dX10_areParty_38 : decode cX10_areParty 38 = .ok (.aload_n 0, 1) := by decide +kernel
theorem dX10_areParty_39 : decode cX10_areParty 39 = .ok (.getfield 61, 3) := by decide +kernel
theorem dX10_areParty_42 : decode cX10_areParty 42 = .ok (.iload_n 2, 1) := by decide +kernel
theorem dX10_areParty_43 : decode cX10_areParty 43 = .ok (.iload_n 3, 1) := by decide +kernel
theorem dX10_areParty_44 : decode cX10_areParty 44 = .ok (.invokestatic 312, 3) := by decide +kernel
theorem dX10_areParty_47 : decode cX10_areParty 47 = .ok (.ifCond .ne 5, 3) := by decide +kernel
theorem dX10_areParty_50 : decode cX10_areParty 50 = .ok (.iconst 0, 1) := by decide +kernel
theorem dX10_areParty_51 : decode cX10_areParty 51 = .ok (.ireturn, 1) := by decide +kernel
theorem dX10_areParty_52 : decode cX10_areParty 52 = .ok (.iinc 3 1, 3) := by decide +kernel
theorem dX10_areParty_55 : decode cX10_areParty 55 = .ok (.goto (-41), 3) := by decide +kernel
theorem dX10_areParty_58 : decode cX10_areParty 58 = .ok (.iinc 2 1, 3) := by decide +kernel
theorem dX10_areParty_61 : decode cX10_areParty 61 = .ok (.goto (-59), 3) := by decide +kernel
theorem dX10_areParty_64 : decode cX10_areParty 64 = .ok (.iconst 1, 1) := by decide +kernel
theorem dX10_areParty_65 : decode cX10_areParty 65 = .ok (.ireturn, 1) := by decide +kernel
theorem dX10_party_0 : decode cX10_party 0 = .ok (.iconst 0, 1) := by decide +kernel
theorem dX10_party_1 : decode cX10_party 1 = .ok (.istore_n 1, 1) := by decide +kernel
theorem dX10_party_2 : decode cX10_party 2 = .ok (.iconst 1, 1) := by decide +kernel
theorem dX10_party_3 : decode cX10_party 3 = .ok (.istore_n 2, 1) := by decide +kernel
theorem dX10_party_4 : decode cX10_party 4 = .ok (.iload_n 2, 1) := by decide +kernel
theorem dX10_party_5 : decode cX10_party 5 = .ok (.iconst 1, 1) := by decide +kernel
theorem dX10_party_6 : decode cX10_party 6 = .ok (.aload_n 0, 1) := by decide +kernel
theorem dX10_party_7 : decode cX10_party 7 = .ok (.getfield 294, 3) := by decide +kernel
theorem dX10_party_10 : decode cX10_party 10 = .ok (.ishl, 1) := by decide +kernel
theorem dX10_party_11 : decode cX10_party 11 = .ok (.if_icmp .ge 30, 3) := by decide +kernel
theorem dX10_party_14 : decode cX10_party 14 = .ok (.iload_n 2, 1) := by decide +kernel
theorem dX10_party_15 : decode cX10_party 15 = .ok (.invokestatic 442, 3) := by decide +kernel
theorem dX10_party_18 : decode cX10_party 18 = .ok (.iload_n 1, 1) := by decide +kernel
theorem dX10_party_19 : decode cX10_party 19 = .ok (.if_icmp .le 16, 3) := by decide +kernel
theorem dX10_party_22 : decode cX10_party 22 = .ok (.aload_n 0, 1) := by decide +kernel
theorem dX10_party_23 : decode cX10_party 23 = .ok (.iload_n 2, 1) := by decide +kernel
theorem dX10_party_24 : decode cX10_party 24 = .ok (.invokevirtual 505, 3) := by decide +kernel
theorem dX10_party_27 : decode cX10_party 27 = .ok (.ifCond .eq 8, 3) := by decide +kernel
theorem dX10_party_30 : decode cX10_party 30 = .ok (.iload_n 2, 1) := by decide +kernel
theorem dX10_party_31 : decode cX10_party 31 = .ok (.invokestatic 442, 3) := by decide +kernel
theorem dX10_party_34 : decode cX10_party 34 = .ok (.istore_n 1, 1) := by decide +kernel
theorem dX10_party_35 : decode cX10_party 35 = .ok (.iinc 2 1, 3) := by decide +kernel
theorem dX10_party_38 : decode cX10_party 38 = .ok (.goto (-34), 3) := by decide +kernel
theorem dX10_party_41 : decode cX10_party 41 = .ok (.iload_n 1, 1) := by decide +kernel
theorem dX10_party_42 : decode cX10_party 42 = .ok (.ireturn, 1) := by decide +kernel
theorem dX10_all_0 : decode cX10_all 0 = .ok (.aload_n 0, 1) := by decide +kernel
theorem dX10_all_1 : decode cX10_all 1 = .ok (.iconst 0, 1) := by decide +kernel
theorem dX10_all_2 : decode cX10_all 2 = .ok (.putfield 96, 3) := by decide +kernel
theorem dX10_all_5 : decode cX10_all 5 = .ok (.aload_n 0, 1) := by decide +kernel
theorem dX10_all_6 : decode cX10_all 6 = .ok (.getfield 294, 3) := by decide +kernel
theorem dX10_all_9 : decode cX10_all 9 = .ok (.ifCond .ne 5, 3) := by decide +kernel
theorem dX10_all_12 : decode cX10_all 12 = .ok (.iconst (-1), 1) := by decide +kernel
theorem dX10_all_13 : decode cX10_all 13 = .ok (.ireturn, 1) := by decide +kernel
theorem dX10_all_14 : decode cX10_all 14 = .ok (.iload_n 1, 1) := by decide +kernel
theorem dX10_all_15 : decode cX10_all 15 = .ok (.tableswitch 110 0 9 #[53, 53, 53, 53, 59, 78, 87, 92, 100, 105], 53) := by decide +kernel
theorem dX10_all_68 : decode cX10_all 68 = .ok (.aload_n 0, 1) := by decide +kernel
theorem dX10_all_69 : decode cX10_all 69 = .ok (.iload_n 1, 1) := by decide +kernel
theorem dX10_all_70 : decode cX10_all 70 = .ok (.invokevirtual 508, 3) := by decide +kernel
theorem dX10_all_73 : decode cX10_all 73 = .ok (.ireturn, 1) := by decide +kernel
theorem dX10_all_74 : decode cX10_all 74 = .ok (.iconst 1, 1) := by decide +kernel
theorem dX10_all_75 : decode cX10_all 75 = .ok (.aload_n 0, 1) := by decide +kernel
theorem dX10_all_76 : decode cX10_all 76 = .ok (.getfield 297, 3) := by decide +kernel
theorem dX10_all_79 : decode cX10_all 79 = .ok (.ishl, 1) := by decide +kernel
theorem dX10_all_80 : decode cX10_all 80 = .ok (.iconst 1, 1) := by decide +kernel
theorem dX10_all_81 : decode cX10_all 81 = .ok (.isub, 1) := by decide +kernel
theorem dX10_all_82 : decode cX10_all 82 = .ok (.aload_n 0, 1) := by decide +kernel
theorem dX10_all_83 : decode cX10_all 83 = .ok (.getfield 61, 3) := by decide +kernel
theorem dX10_all_86 : decode cX10_all 86 = .ok (.bipush 48, 2) := by decide +kernel
theorem dX10_all_88 : decode cX10_all 88 = .ok (.iaload, 1) := by decide +kernel
theorem dX10_all_89 : decode cX10_all 89 = .ok (.iconst (-1), 1) := by decide +kernel
theorem dX10_all_90 : decode cX10_all 90 = .ok (.ixor, 1) := by decide +kernel
theorem dX10_all_91 : decode cX10_all 91 = .ok (.iand, 1) := by decide +kernel
theorem dX10_all_92 : decode cX10_all 92 = .ok (.ireturn, 1) := by decide +kernel
theorem dX10_all_93 : decode cX10_all 93 = .ok (.aload_n 0, 1) := by decide +kernel
theorem dX10_all_94 : decode cX10_all 94 = .ok (.aload_n 0, 1) := by decide +kernel
theorem dX10_all_95 : decode cX10_all 95 = .ok (.getfield 61, 3) := by decide +kernel
theorem dX10_all_98 : decode cX10_all 98 = .ok (.invokevirtual 360, 3) := by decide +kernel
theorem dX10_all_101 : decode cX10_all 101 = .ok (.ireturn, 1) := by decide +kernel
theorem dX10_all_102 : decode cX10_all 102 = .ok (.aload_n 0, 1) := by decide +kernel
theorem dX10_all_103 : decode cX10_all 103 = .ok (.invokevirtual 511, 3) := by decide +kernel
theorem dX10_all_106 : decode cX10_all 106 = .ok (.ireturn, 1) := by decide +kernel
theorem dX10_all_107 : decode cX10_all 107 = .ok (.aload_n 0, 1) := by decide +kernel
theorem dX10_all_108 : decode cX10_all 108 = .ok (.getfield 61, 3) := by decide +kernel
theorem dX10_all_111 : decode cX10_all 111 = .ok (.bipush 50, 2) := by decide +kernel
theorem dX10_all_113 : decode cX10_all 113 = .ok (.iaload, 1) := by decide +kernel
theorem dX10_all_114 : decode cX10_all 114 = .ok (.ireturn, 1) := by decide +kernel
theorem dX10_all_115 : decode cX10_all 115 = .ok (.aload_n 0, 1) := by decide +kernel
theorem dX10_all_116 : decode cX10_all 116 = .ok (.invokevirtual 514, 3) := by decide +kernel
theorem dX10_all_119 : decode cX10_all 119 = .ok (.ireturn, 1) := by decide +kernel
theorem dX10_all_120 : decode cX10_all 120 = .ok (.aload_n 0, 1) := by decide +kernel
theorem dX10_all_121 : decode cX10_all 121 = .ok (.invokevirtual 517, 3) := by decide +kernel
theorem dX10_all_124 : decode cX10_all 124 = .ok (.ireturn, 1) := by decide +kernel
theorem dX10_all_125 : decode cX10_all 125 = .ok (.iconst (-1), 1) := by decide +kernel
theorem dX10_all_126 : decode cX10_all 126 = .ok (.ireturn, 1) := by decide +kernel
theorem dX10_appeals_0 : decode cX10_appeals 0 = .ok (.aload_n 0, 1) := by decide +kernel
theorem dX10_appeals_1 : decode cX10_appeals 1 = .ok (.bipush 49, 2) := by decide +kernel
theorem dX10_appeals_3 : decode cX10_appeals 3 = .ok (.dup2, 1) := by decide +kernel
theorem dX10_appeals_4 : decode cX10_appeals 4 = .ok (.iaload, 1) := by decide +kernel
theorem dX10_appeals_5 : decode cX10_appeals 5 = .ok (.iconst 2, 1) := by decide +kernel
theorem dX10_appeals_6 : decode cX10_appeals 6 = .ok (.isub, 1) := by decide +kernel
theorem dX10_appeals_7 : decode cX10_appeals 7 = .ok (.iastore, 1) := by decide +kernel
theorem dX10_appeals_8 : decode cX10_appeals 8 = .ok (.aload_n 0, 1) := by decide +kernel
theorem dX10_appeals_9 : decode cX10_appeals 9 = .ok (.iload_n 1, 1) := by decide +kernel
theorem dX10_appeals_10 : decode cX10_appeals 10 = .ok (.iload_n 2, 1) := by decide +kernel
theorem dX10_appeals_11 : decode cX10_appeals 11 = .ok (.aload_n 0, 1) := by decide +kernel
theorem dX10_appeals_12 : decode cX10_appeals 12 = .ok (.iload_n 1, 1) := by decide +kernel
theorem dX10_appeals_13 : decode cX10_appeals 13 = .ok (.iload_n 2, 1) := by decide +kernel
theorem dX10_appeals_14 : decode cX10_appeals 14 = .ok (.invokestatic 312, 3) := by decide +kernel
theorem dX10_appeals_17 : decode cX10_appeals 17 = .ok (.aload_n 0, 1) := by decide +kernel
theorem dX10_appeals_18 : decode cX10_appeals 18 = .ok (.iload_n 1, 1) := by decide +kernel
theorem dX10_appeals_19 : decode cX10_appeals 19 = .ok (.iload_n 2, 1) := by decide +kernel
theorem dX10_appeals_20 : decode cX10_appeals 20 = .ok (.invokestatic 312, 3) := by decide +kernel
theorem dX10_appeals_23 : decode cX10_appeals 23 = .ok (.iconst 2, 1) := by decide +kernel
theorem dX10_appeals_24 : decode cX10_appeals 24 = .ok (.idiv, 1) := by decide +kernel
theorem dX10_appeals_25 : decode cX10_appeals 25 = .ok (.isub, 1) := by decide +kernel
theorem dX10_appeals_26 : decode cX10_appeals 26 = .ok (.invokestatic 318, 3) := by decide +kernel
theorem dX10_appeals_29 : decode cX10_appeals 29 = .ok (.return_, 1) := by decide +kernel
theorem dX10_isPerson_0 : decode cX10_isPerson 0 = .ok (.iload_n 1, 1) := by decide +kernel
theorem dX10_isPerson_1 : decode cX10_isPerson 1 = .ok (.ifCond .lt 15, 3) := by decide +kernel
theorem dX10_isPerson_4 : decode cX10_isPerson 4 = .ok (.iload_n 1, 1) := by decide +kernel
theorem dX10_isPerson_5 : decode cX10_isPerson 5 = .ok (.aload_n 0, 1) := by decide +kernel
theorem dX10_isPerson_6 : decode cX10_isPerson 6 = .ok (.getfield 294, 3) := by decide +kernel
theorem dX10_isPerson_9 : decode cX10_isPerson 9 = .ok (.if_icmp .ge 7, 3) := by decide +kernel
theorem dX10_isPerson_12 : decode cX10_isPerson 12 = .ok (.iconst 1, 1) := by decide +kernel
theorem dX10_isPerson_13 : decode cX10_isPerson 13 = .ok (.goto 4, 3) := by decide +kernel
theorem dX10_isPerson_16 : decode cX10_isPerson 16 = .ok (.iconst 0, 1) := by decide +kernel
theorem dX10_isPerson_17 : decode cX10_isPerson 17 = .ok (.ireturn, 1) := by decide +kernel
theorem dX10_areTwo_0 : decode cX10_areTwo 0 = .ok (.aload_n 0, 1) := by decide +kernel
theorem dX10_areTwo_1 : decode cX10_areTwo 1 = .ok (.iload_n 1, 1) := by decide +kernel
theorem dX10_areTwo_2 : decode cX10_areTwo 2 = .ok (.invokevirtual 309, 3) := by decide +kernel
theorem dX10_areTwo_5 : decode cX10_areTwo 5 = .ok (.ifCond .eq 20, 3) := by decide +kernel
theorem dX10_areTwo_8 : decode cX10_areTwo 8 = .ok (.aload_n 0, 1) := by decide +kernel
theorem dX10_areTwo_9 : decode cX10_areTwo 9 = .ok (.iload_n 2, 1) := by decide +kernel
theorem dX10_areTwo_10 : decode cX10_areTwo 10 = .ok (.invokevirtual 309, 3) := by decide +kernel
theorem dX10_areTwo_13 : decode cX10_areTwo 13 = .ok (.ifCond .eq 12, 3) := by decide +kernel
theorem dX10_areTwo_16 : decode cX10_areTwo 16 = .ok (.iload_n 1, 1) := by decide +kernel
theorem dX10_areTwo_17 : decode cX10_areTwo 17 = .ok (.iload_n 2, 1) := by decide +kernel
theorem dX10_areTwo_18 : decode cX10_areTwo 18 = .ok (.if_icmp .eq 7, 3) := by decide +kernel
theorem dX10_areTwo_21 : decode cX10_areTwo 21 = .ok (.iconst 1, 1) := by decide +kernel
theorem dX10_areTwo_22 : decode cX10_areTwo 22 = .ok (.goto 4, 3) := by decide +kernel
theorem dX10_areTwo_25 : decode cX10_areTwo 25 = .ok (.iconst 0, 1) := by decide +kernel
theorem dX10_areTwo_26 : decode cX10_areTwo 26 = .ok (.ireturn, 1) := by decide +kernel
theorem dX10_canAppeal_0 : decode cX10_canAppeal 0 = .ok (.aload_n 0, 1) := by decide +kernel
theorem dX10_canAppeal_1 : decode cX10_canAppeal 1 = .ok (.iload_n 2, 1) := by decide +kernel
theorem dX10_canAppeal_2 : decode cX10_canAppeal 2 = .ok (.iload_n 3, 1) := by decide +kernel
theorem dX10_canAppeal_3 : decode cX10_canAppeal 3 = .ok (.invokevirtual 393, 3) := by decide +kernel
theorem dX10_canAppeal_6 : decode cX10_canAppeal 6 = .ok (.ifCond .eq 25, 3) := by decide +kernel
theorem dX10_canAppeal_9 : decode cX10_canAppeal 9 = .ok (.aload_n 1, 1) := by decide +kernel
theorem dX10_canAppeal_10 : decode cX10_canAppeal 10 = .ok (.iload_n 2, 1) := by decide +kernel
theorem dX10_canAppeal_11 : decode cX10_canAppeal 11 = .ok (.iload_n 3, 1) := by decide +kernel
theorem dX10_canAppeal_12 : decode cX10_canAppeal 12 = .ok (.invokestatic 312, 3) := by decide +kernel
theorem dX10_canAppeal_15 : decode cX10_canAppeal 15 = .ok (.iconst 2, 1) := by decide +kernel
theorem dX10_canAppeal_16 : decode cX10_canAppeal 16 = .ok (.if_icmp .lt 15, 3) := by decide +kernel
theorem dX10_canAppeal_19 : decode cX10_canAppeal 19 = .ok (.aload_n 1, 1) := by decide +kernel
theorem dX10_canAppeal_20 : decode cX10_canAppeal 20 = .ok (.bipush 49, 2) := by decide +kernel
theorem dX10_canAppeal_22 : decode cX10_canAppeal 22 = .ok (.iaload, 1) := by decide +kernel
theorem dX10_canAppeal_23 : decode cX10_canAppeal 23 = .ok (.iconst 2, 1) := by decide +kernel
theorem dX10_canAppeal_24 : decode cX10_canAppeal 24 = .ok (.if_icmp .lt 7, 3) := by decide +kernel
theorem dX10_canAppeal_27 : decode cX10_canAppeal 27 = .ok (.iconst 1, 1) := by decide +kernel
theorem dX10_canAppeal_28 : decode cX10_canAppeal 28 = .ok (.goto 4, 3) := by decide +kernel
theorem dX10_canAppeal_31 : decode cX10_canAppeal 31 = .ok (.iconst 0, 1) := by decide +kernel
theorem dX10_canAppeal_32 : decode cX10_canAppeal 32 = .ok (.ireturn, 1) := by decide +kernel
