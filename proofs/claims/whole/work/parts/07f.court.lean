section Court
theorem wo_Cc : Cond.methodLink RX9 1 objectInit ∈ WS := WS_of (w := Cond.methodLink RX9 1 objectInit) (List.mem_append_right _ (List.mem_append_left _ (List.mem_of_getElem? (i := 27) (by decide +kernel)))) (by decide +kernel)
theorem kn_Cc_7 : NL RX9 7 8 := ⟨(RX8, TX8, 4), rfl, WS_of (w := Cond.classLink RX9 7 RX8) (List.mem_append_right _ (List.mem_append_left _ (List.mem_of_getElem? (i := 30) (by decide +kernel)))) (by decide +kernel), WS_of (w := Cond.instantiable RX8 4) (List.mem_append_right _ (List.mem_append_left _ (List.mem_of_getElem? (i := 31) (by decide +kernel)))) (by decide +kernel), WS_of (w := Cond.initialized RX8) (List.mem_append_right _ (List.mem_append_left _ (List.mem_of_getElem? (i := 2) (by decide +kernel)))) (by decide +kernel)⟩
theorem kl_Cc_9 : ML RX9 9 yX8_init := Or.inr ⟨"CompanyCourt", by decide +kernel⟩
theorem kf_Cc_10 : FL RX9 10 9 0 := ⟨(RX9, TX9, 20), rfl, by decide, WS_of (w := Cond.fieldLink RX9 10 (TX9 0).1 (TX9 0).2.1 (TX9 0).2.2.1) (List.mem_append_right _ (List.mem_append_right _ (List.mem_append_left _ (List.mem_of_getElem? (i := 8) (by decide +kernel))))) (by decide +kernel)⟩
theorem kn_Cc_16 : NL RX9 16 0 := ⟨(RX0, TX0, 6), rfl, WS_of (w := Cond.classLink RX9 16 RX0) (List.mem_append_right _ (List.mem_append_left _ (List.mem_of_getElem? (i := 55) (by decide +kernel)))) (by decide +kernel), WS_of (w := Cond.instantiable RX0 6) (List.mem_append_right _ (List.mem_append_left _ (List.mem_of_getElem? (i := 56) (by decide +kernel)))) (by decide +kernel), WS_of (w := Cond.initialized RX0) (List.mem_append_right _ (List.mem_append_left _ (List.mem_of_getElem? (i := 3) (by decide +kernel)))) (by decide +kernel)⟩
theorem kl_Cc_18 : ML RX9 18 yX0_init := Or.inr ⟨"CompanyCourt", by decide +kernel⟩
theorem kf_Cc_19 : FL RX9 19 9 1 := ⟨(RX9, TX9, 20), rfl, by decide, WS_of (w := Cond.fieldLink RX9 19 (TX9 1).1 (TX9 1).2.1 (TX9 1).2.2.1) (List.mem_append_right _ (List.mem_append_right _ (List.mem_append_left _ (List.mem_of_getElem? (i := 9) (by decide +kernel))))) (by decide +kernel)⟩
theorem kf_Cc_23 : FL RX9 23 9 2 := ⟨(RX9, TX9, 20), rfl, by decide, WS_of (w := Cond.fieldLink RX9 23 (TX9 2).1 (TX9 2).2.1 (TX9 2).2.2.1) (List.mem_append_right _ (List.mem_append_right _ (List.mem_append_left _ (List.mem_of_getElem? (i := 10) (by decide +kernel))))) (by decide +kernel)⟩
theorem kr_Cc_26 : Cond.classLink RX9 26 "CompanyCourt$Law" ∈ WS := WS_of (w := Cond.classLink RX9 26 "CompanyCourt$Law") (List.mem_append_right _ (List.mem_append_left _ (List.mem_of_getElem? (i := 83) (by decide +kernel)))) (by decide +kernel)
theorem kf_Cc_28 : FL RX9 28 9 3 := ⟨(RX9, TX9, 20), rfl, by decide, WS_of (w := Cond.fieldLink RX9 28 (TX9 3).1 (TX9 3).2.1 (TX9 3).2.2.1) (List.mem_append_right _ (List.mem_append_right _ (List.mem_append_left _ (List.mem_of_getElem? (i := 11) (by decide +kernel))))) (by decide +kernel)⟩
theorem kr_Cc_32 : Cond.classLink RX9 32 "CompanyCourt$Session" ∈ WS := WS_of (w := Cond.classLink RX9 32 "CompanyCourt$Session") (List.mem_append_right _ (List.mem_append_left _ (List.mem_of_getElem? (i := 85) (by decide +kernel)))) (by decide +kernel)
theorem kf_Cc_34 : FL RX9 34 9 4 := ⟨(RX9, TX9, 20), rfl, by decide, WS_of (w := Cond.fieldLink RX9 34 (TX9 4).1 (TX9 4).2.1 (TX9 4).2.2.1) (List.mem_append_right _ (List.mem_append_right _ (List.mem_append_left _ (List.mem_of_getElem? (i := 12) (by decide +kernel))))) (by decide +kernel)⟩
theorem kf_Cc_38 : FL RX9 38 9 5 := ⟨(RX9, TX9, 20), rfl, by decide, WS_of (w := Cond.fieldLink RX9 38 (TX9 5).1 (TX9 5).2.1 (TX9 5).2.2.1) (List.mem_append_right _ (List.mem_append_right _ (List.mem_append_left _ (List.mem_of_getElem? (i := 13) (by decide +kernel))))) (by decide +kernel)⟩
theorem kf_Cc_42 : FL RX9 42 9 6 := ⟨(RX9, TX9, 20), rfl, by decide, WS_of (w := Cond.fieldLink RX9 42 (TX9 6).1 (TX9 6).2.1 (TX9 6).2.2.1) (List.mem_append_right _ (List.mem_append_right _ (List.mem_append_left _ (List.mem_of_getElem? (i := 14) (by decide +kernel))))) (by decide +kernel)⟩
theorem kf_Cc_45 : FL RX9 45 9 7 := ⟨(RX9, TX9, 20), rfl, by decide, WS_of (w := Cond.fieldLink RX9 45 (TX9 7).1 (TX9 7).2.1 (TX9 7).2.2.1) (List.mem_append_right _ (List.mem_append_right _ (List.mem_append_left _ (List.mem_of_getElem? (i := 15) (by decide +kernel))))) (by decide +kernel)⟩
theorem kf_Cc_48 : FL RX9 48 9 8 := ⟨(RX9, TX9, 20), rfl, by decide, WS_of (w := Cond.fieldLink RX9 48 (TX9 8).1 (TX9 8).2.1 (TX9 8).2.2.1) (List.mem_append_right _ (List.mem_append_right _ (List.mem_append_left _ (List.mem_of_getElem? (i := 16) (by decide +kernel))))) (by decide +kernel)⟩
theorem kn_Cc_51 : NL RX9 51 7 := ⟨(RX7, TX7, 11), rfl, WS_of (w := Cond.classLink RX9 51 RX7) (List.mem_append_right _ (List.mem_append_left _ (List.mem_of_getElem? (i := 87) (by decide +kernel)))) (by decide +kernel), WS_of (w := Cond.instantiable RX7 11) (List.mem_append_right _ (List.mem_append_left _ (List.mem_of_getElem? (i := 88) (by decide +kernel)))) (by decide +kernel), WS_of (w := Cond.initialized RX7) (List.mem_append_right _ (List.mem_append_left _ (List.mem_of_getElem? (i := 4) (by decide +kernel)))) (by decide +kernel)⟩
theorem kl_Cc_53 : ML RX9 53 yX7_init := Or.inr ⟨"CompanyCourt", by decide +kernel⟩
theorem kf_Cc_54 : FL RX9 54 9 9 := ⟨(RX9, TX9, 20), rfl, by decide, WS_of (w := Cond.fieldLink RX9 54 (TX9 9).1 (TX9 9).2.1 (TX9 9).2.2.1) (List.mem_append_right _ (List.mem_append_right _ (List.mem_append_left _ (List.mem_of_getElem? (i := 17) (by decide +kernel))))) (by decide +kernel)⟩
theorem kf_Cc_58 : FL RX9 58 9 10 := ⟨(RX9, TX9, 20), rfl, by decide, WS_of (w := Cond.fieldLink RX9 58 (TX9 10).1 (TX9 10).2.1 (TX9 10).2.2.1) (List.mem_append_right _ (List.mem_append_right _ (List.mem_append_left _ (List.mem_of_getElem? (i := 18) (by decide +kernel))))) (by decide +kernel)⟩
theorem kf_Cc_61 : FL RX9 61 9 11 := ⟨(RX9, TX9, 20), rfl, by decide, WS_of (w := Cond.fieldLink RX9 61 (TX9 11).1 (TX9 11).2.1 (TX9 11).2.2.1) (List.mem_append_right _ (List.mem_append_right _ (List.mem_append_left _ (List.mem_of_getElem? (i := 19) (by decide +kernel))))) (by decide +kernel)⟩
theorem kf_Cc_64 : FL RX9 64 9 12 := ⟨(RX9, TX9, 20), rfl, by decide, WS_of (w := Cond.fieldLink RX9 64 (TX9 12).1 (TX9 12).2.1 (TX9 12).2.2.1) (List.mem_append_right _ (List.mem_append_right _ (List.mem_append_left _ (List.mem_of_getElem? (i := 20) (by decide +kernel))))) (by decide +kernel)⟩
theorem kr_Cc_51 : Cond.classLink RX9 51 "CompanyCourt$State" ∈ WS := WS_of (w := Cond.classLink RX9 51 "CompanyCourt$State") (List.mem_append_right _ (List.mem_append_left _ (List.mem_of_getElem? (i := 87) (by decide +kernel)))) (by decide +kernel)
theorem kf_Cc_68 : FL RX9 68 9 13 := ⟨(RX9, TX9, 20), rfl, by decide, WS_of (w := Cond.fieldLink RX9 68 (TX9 13).1 (TX9 13).2.1 (TX9 13).2.2.1) (List.mem_append_right _ (List.mem_append_right _ (List.mem_append_left _ (List.mem_of_getElem? (i := 21) (by decide +kernel))))) (by decide +kernel)⟩
theorem kn_Cc_72 : NL RX9 72 4 := ⟨(RX4, TX4, 3), rfl, WS_of (w := Cond.classLink RX9 72 RX4) (List.mem_append_right _ (List.mem_append_left _ (List.mem_of_getElem? (i := 140) (by decide +kernel)))) (by decide +kernel), WS_of (w := Cond.instantiable RX4 3) (List.mem_append_right _ (List.mem_append_left _ (List.mem_of_getElem? (i := 141) (by decide +kernel)))) (by decide +kernel), WS_of (w := Cond.initialized RX4) (List.mem_append_right _ (List.mem_append_left _ (List.mem_of_getElem? (i := 5) (by decide +kernel)))) (by decide +kernel)⟩
theorem kl_Cc_74 : ML RX9 74 yX4_init := Or.inl (WS_of (w := Cond.methodLink RX9 74 yX4_init) (List.mem_append_right _ (List.mem_append_left _ (List.mem_of_getElem? (i := 142) (by decide +kernel)))) (by decide +kernel))
theorem kf_Cc_75 : FL RX9 75 9 14 := ⟨(RX9, TX9, 20), rfl, by decide, WS_of (w := Cond.fieldLink RX9 75 (TX9 14).1 (TX9 14).2.1 (TX9 14).2.2.1) (List.mem_append_right _ (List.mem_append_right _ (List.mem_append_left _ (List.mem_of_getElem? (i := 22) (by decide +kernel))))) (by decide +kernel)⟩
theorem kn_Cc_79 : NL RX9 79 3 := ⟨(RX3, TX3, 2), rfl, WS_of (w := Cond.classLink RX9 79 RX3) (List.mem_append_right _ (List.mem_append_left _ (List.mem_of_getElem? (i := 159) (by decide +kernel)))) (by decide +kernel), WS_of (w := Cond.instantiable RX3 2) (List.mem_append_right _ (List.mem_append_left _ (List.mem_of_getElem? (i := 160) (by decide +kernel)))) (by decide +kernel), WS_of (w := Cond.initialized RX3) (List.mem_append_right _ (List.mem_append_left _ (List.mem_of_getElem? (i := 6) (by decide +kernel)))) (by decide +kernel)⟩
theorem kl_Cc_81 : ML RX9 81 yX3_init := Or.inr ⟨"CompanyCourt", by decide +kernel⟩
theorem kf_Cc_82 : FL RX9 82 9 15 := ⟨(RX9, TX9, 20), rfl, by decide, WS_of (w := Cond.fieldLink RX9 82 (TX9 15).1 (TX9 15).2.1 (TX9 15).2.2.1) (List.mem_append_right _ (List.mem_append_right _ (List.mem_append_left _ (List.mem_of_getElem? (i := 23) (by decide +kernel))))) (by decide +kernel)⟩
theorem kn_Cc_86 : NL RX9 86 1 := ⟨(RX1, TX1, 5), rfl, WS_of (w := Cond.classLink RX9 86 RX1) (List.mem_append_right _ (List.mem_append_left _ (List.mem_of_getElem? (i := 172) (by decide +kernel)))) (by decide +kernel), WS_of (w := Cond.instantiable RX1 5) (List.mem_append_right _ (List.mem_append_left _ (List.mem_of_getElem? (i := 173) (by decide +kernel)))) (by decide +kernel), WS_of (w := Cond.initialized RX1) (List.mem_append_right _ (List.mem_append_left _ (List.mem_of_getElem? (i := 7) (by decide +kernel)))) (by decide +kernel)⟩
theorem kl_Cc_88 : ML RX9 88 yX1_init := Or.inr ⟨"CompanyCourt", by decide +kernel⟩
theorem kf_Cc_89 : FL RX9 89 9 16 := ⟨(RX9, TX9, 20), rfl, by decide, WS_of (w := Cond.fieldLink RX9 89 (TX9 16).1 (TX9 16).2.1 (TX9 16).2.2.1) (List.mem_append_right _ (List.mem_append_right _ (List.mem_append_left _ (List.mem_of_getElem? (i := 24) (by decide +kernel))))) (by decide +kernel)⟩
theorem kn_Cc_93 : NL RX9 93 5 := ⟨(RX5, TX5, 4), rfl, WS_of (w := Cond.classLink RX9 93 RX5) (List.mem_append_right _ (List.mem_append_left _ (List.mem_of_getElem? (i := 197) (by decide +kernel)))) (by decide +kernel), WS_of (w := Cond.instantiable RX5 4) (List.mem_append_right _ (List.mem_append_left _ (List.mem_of_getElem? (i := 198) (by decide +kernel)))) (by decide +kernel), WS_of (w := Cond.initialized RX5) (List.mem_append_right _ (List.mem_append_left _ (List.mem_of_getElem? (i := 8) (by decide +kernel)))) (by decide +kernel)⟩
theorem kl_Cc_95 : ML RX9 95 yX5_init := Or.inr ⟨"CompanyCourt", by decide +kernel⟩
theorem kf_Cc_96 : FL RX9 96 9 17 := ⟨(RX9, TX9, 20), rfl, by decide, WS_of (w := Cond.fieldLink RX9 96 (TX9 17).1 (TX9 17).2.1 (TX9 17).2.2.1) (List.mem_append_right _ (List.mem_append_right _ (List.mem_append_left _ (List.mem_of_getElem? (i := 25) (by decide +kernel))))) (by decide +kernel)⟩
theorem kf_Cc_100 : FL RX9 100 9 18 := ⟨(RX9, TX9, 20), rfl, by decide, WS_of (w := Cond.fieldLink RX9 100 (TX9 18).1 (TX9 18).2.1 (TX9 18).2.2.1) (List.mem_append_right _ (List.mem_append_right _ (List.mem_append_left _ (List.mem_of_getElem? (i := 26) (by decide +kernel))))) (by decide +kernel)⟩
theorem kf_Cc_104 : FL RX9 104 9 19 := ⟨(RX9, TX9, 20), rfl, by decide, WS_of (w := Cond.fieldLink RX9 104 (TX9 19).1 (TX9 19).2.1 (TX9 19).2.2.1) (List.mem_append_right _ (List.mem_append_right _ (List.mem_append_left _ (List.mem_of_getElem? (i := 27) (by decide +kernel))))) (by decide +kernel)⟩
theorem kn_Cc_26 : NL RX9 26 2 := ⟨(RX2, TX2, 4), rfl, WS_of (w := Cond.classLink RX9 26 RX2) (List.mem_append_right _ (List.mem_append_left _ (List.mem_of_getElem? (i := 83) (by decide +kernel)))) (by decide +kernel), WS_of (w := Cond.instantiable RX2 4) (List.mem_append_right _ (List.mem_append_left _ (List.mem_of_getElem? (i := 217) (by decide +kernel)))) (by decide +kernel), WS_of (w := Cond.initialized RX2) (List.mem_append_right _ (List.mem_append_left _ (List.mem_of_getElem? (i := 9) (by decide +kernel)))) (by decide +kernel)⟩
theorem kl_Cc_108 : ML RX9 108 yX2_init := Or.inr ⟨"CompanyCourt", by decide +kernel⟩
theorem kn_Cc_32 : NL RX9 32 6 := ⟨(RX6, TX6, 2), rfl, WS_of (w := Cond.classLink RX9 32 RX6) (List.mem_append_right _ (List.mem_append_left _ (List.mem_of_getElem? (i := 85) (by decide +kernel)))) (by decide +kernel), WS_of (w := Cond.instantiable RX6 2) (List.mem_append_right _ (List.mem_append_left _ (List.mem_of_getElem? (i := 235) (by decide +kernel)))) (by decide +kernel), WS_of (w := Cond.initialized RX6) (List.mem_append_right _ (List.mem_append_left _ (List.mem_of_getElem? (i := 10) (by decide +kernel)))) (by decide +kernel)⟩
theorem kl_Cc_109 : ML RX9 109 yX6_init := Or.inr ⟨"CompanyCourt", by decide +kernel⟩
theorem dX9_init_0 : decode cX9_init 0 = .ok (.aload_n 0, 1) := by decide +kernel
theorem dX9_init_1 : decode cX9_init 1 = .ok (.invokespecial 1, 3) := by decide +kernel
theorem dX9_init_4 : decode cX9_init 4 = .ok (.aload_n 0, 1) := by decide +kernel
theorem dX9_init_5 : decode cX9_init 5 = .ok (.new 7, 3) := by decide +kernel
theorem dX9_init_8 : decode cX9_init 8 = .ok (.dup, 1) := by decide +kernel
theorem dX9_init_9 : decode cX9_init 9 = .ok (.invokespecial 9, 3) := by decide +kernel
theorem dX9_init_12 : decode cX9_init 12 = .ok (.putfield 10, 3) := by decide +kernel
theorem dX9_init_15 : decode cX9_init 15 = .ok (.aload_n 0, 1) := by decide +kernel
theorem dX9_init_16 : decode cX9_init 16 = .ok (.new 16, 3) := by decide +kernel
theorem dX9_init_19 : decode cX9_init 19 = .ok (.dup, 1) := by decide +kernel
theorem dX9_init_20 : decode cX9_init 20 = .ok (.invokespecial 18, 3) := by decide +kernel
theorem dX9_init_23 : decode cX9_init 23 = .ok (.putfield 19, 3) := by decide +kernel
theorem dX9_init_26 : decode cX9_init 26 = .ok (.aload_n 0, 1) := by decide +kernel
theorem dX9_init_27 : decode cX9_init 27 = .ok (.new 16, 3) := by decide +kernel
theorem dX9_init_30 : decode cX9_init 30 = .ok (.dup, 1) := by decide +kernel
theorem dX9_init_31 : decode cX9_init 31 = .ok (.invokespecial 18, 3) := by decide +kernel
theorem dX9_init_34 : decode cX9_init 34 = .ok (.putfield 23, 3) := by decide +kernel
theorem dX9_init_37 : decode cX9_init 37 = .ok (.aload_n 0, 1) := by decide +kernel
theorem dX9_init_38 : decode cX9_init 38 = .ok (.iconst 5, 1) := by decide +kernel
theorem dX9_init_39 : decode cX9_init 39 = .ok (.anewarray 26, 3) := by decide +kernel
theorem dX9_init_42 : decode cX9_init 42 = .ok (.putfield 28, 3) := by decide +kernel
theorem dX9_init_45 : decode cX9_init 45 = .ok (.aload_n 0, 1) := by decide +kernel
theorem dX9_init_46 : decode cX9_init 46 = .ok (.iconst 5, 1) := by decide +kernel
theorem dX9_init_47 : decode cX9_init 47 = .ok (.anewarray 32, 3) := by decide +kernel
theorem dX9_init_50 : decode cX9_init 50 = .ok (.putfield 34, 3) := by decide +kernel
theorem dX9_init_53 : decode cX9_init 53 = .ok (.aload_n 0, 1) := by decide +kernel
theorem dX9_init_54 : decode cX9_init 54 = .ok (.iconst 0, 1) := by decide +kernel
theorem dX9_init_55 : decode cX9_init 55 = .ok (.putfield 38, 3) := by decide +kernel
theorem dX9_init_58 : decode cX9_init 58 = .ok (.aload_n 0, 1) := by decide +kernel
theorem dX9_init_59 : decode cX9_init 59 = .ok (.iconst (-1), 1) := by decide +kernel
theorem dX9_init_60 : decode cX9_init 60 = .ok (.putfield 42, 3) := by decide +kernel
theorem dX9_init_63 : decode cX9_init 63 = .ok (.aload_n 0, 1) := by decide +kernel
theorem dX9_init_64 : decode cX9_init 64 = .ok (.iconst 0, 1) := by decide +kernel
theorem dX9_init_65 : decode cX9_init 65 = .ok (.putfield 45, 3) := by decide +kernel
theorem dX9_init_68 : decode cX9_init 68 = .ok (.aload_n 0, 1) := by decide +kernel
theorem dX9_init_69 : decode cX9_init 69 = .ok (.iconst 3, 1) := by decide +kernel
theorem dX9_init_70 : decode cX9_init 70 = .ok (.putfield 48, 3) := by decide +kernel
theorem dX9_init_73 : decode cX9_init 73 = .ok (.aload_n 0, 1) := by decide +kernel
theorem dX9_init_74 : decode cX9_init 74 = .ok (.new 51, 3) := by decide +kernel
theorem dX9_init_77 : decode cX9_init 77 = .ok (.dup, 1) := by decide +kernel
theorem dX9_init_78 : decode cX9_init 78 = .ok (.invokespecial 53, 3) := by decide +kernel
theorem dX9_init_81 : decode cX9_init 81 = .ok (.putfield 54, 3) := by decide +kernel
theorem dX9_init_84 : decode cX9_init 84 = .ok (.aload_n 0, 1) := by decide +kernel
theorem dX9_init_85 : decode cX9_init 85 = .ok (.new 51, 3) := by decide +kernel
theorem dX9_init_88 : decode cX9_init 88 = .ok (.dup, 1) := by decide +kernel
theorem dX9_init_89 : decode cX9_init 89 = .ok (.invokespecial 53, 3) := by decide +kernel
theorem dX9_init_92 : decode cX9_init 92 = .ok (.putfield 58, 3) := by decide +kernel
theorem dX9_init_95 : decode cX9_init 95 = .ok (.aload_n 0, 1) := by decide +kernel
theorem dX9_init_96 : decode cX9_init 96 = .ok (.new 51, 3) := by decide +kernel
theorem dX9_init_99 : decode cX9_init 99 = .ok (.dup, 1) := by decide +kernel
theorem dX9_init_100 : decode cX9_init 100 = .ok (.invokespecial 53, 3) := by decide +kernel
theorem dX9_init_103 : decode cX9_init 103 = .ok (.putfield 61, 3) := by decide +kernel
theorem dX9_init_106 : decode cX9_init 106 = .ok (.aload_n 0, 1) := by decide +kernel
theorem dX9_init_107 : decode cX9_init 107 = .ok (.iconst 0, 1) := by decide +kernel
theorem dX9_init_108 : decode cX9_init 108 = .ok (.putfield 64, 3) := by decide +kernel
theorem dX9_init_111 : decode cX9_init 111 = .ok (.aload_n 0, 1) := by decide +kernel
theorem dX9_init_112 : decode cX9_init 112 = .ok (.bipush 7, 2) := by decide +kernel
theorem dX9_init_114 : decode cX9_init 114 = .ok (.anewarray 51, 3) := by decide +kernel
theorem dX9_init_117 : decode cX9_init 117 = .ok (.putfield 68, 3) := by decide +kernel
theorem dX9_init_120 : decode cX9_init 120 = .ok (.aload_n 0, 1) := by decide +kernel
theorem dX9_init_121 : decode cX9_init 121 = .ok (.new 72, 3) := by decide +kernel
theorem dX9_init_124 : decode cX9_init 124 = .ok (.dup, 1) := by decide +kernel
theorem dX9_init_125 : decode cX9_init 125 = .ok (.invokespecial 74, 3) := by decide +kernel
theorem dX9_init_128 : decode cX9_init 128 = .ok (.putfield 75, 3) := by decide +kernel
theorem dX9_init_131 : decode cX9_init 131 = .ok (.aload_n 0, 1) := by decide +kernel
theorem dX9_init_132 : decode cX9_init 132 = .ok (.new 79, 3) := by decide +kernel
theorem dX9_init_135 : decode cX9_init 135 = .ok (.dup, 1) := by decide +kernel
theorem dX9_init_136 : decode cX9_init 136 = .ok (.invokespecial 81, 3) := by decide +kernel
theorem dX9_init_139 : decode cX9_init 139 = .ok (.putfield 82, 3) := by decide +kernel
theorem dX9_init_142 : decode cX9_init 142 = .ok (.aload_n 0, 1) := by decide +kernel
theorem dX9_init_143 : decode cX9_init 143 = .ok (.new 86, 3) := by decide +kernel
theorem dX9_init_146 : decode cX9_init 146 = .ok (.dup, 1) := by decide +kernel
theorem dX9_init_147 : decode cX9_init 147 = .ok (.invokespecial 88, 3) := by decide +kernel
theorem dX9_init_150 : decode cX9_init 150 = .ok (.putfield 89, 3) := by decide +kernel
theorem dX9_init_153 : decode cX9_init 153 = .ok (.aload_n 0, 1) := by decide +kernel
theorem dX9_init_154 : decode cX9_init 154 = .ok (.new 93, 3) := by decide +kernel
theorem dX9_init_157 : decode cX9_init 157 = .ok (.dup, 1) := by decide +kernel
theorem dX9_init_158 : decode cX9_init 158 = .ok (.invokespecial 95, 3) := by decide +kernel
theorem dX9_init_161 : decode cX9_init 161 = .ok (.putfield 96, 3) := by decide +kernel
theorem dX9_init_164 : decode cX9_init 164 = .ok (.aload_n 0, 1) := by decide +kernel
theorem dX9_init_165 : decode cX9_init 165 = .ok (.bipush 6, 2) := by decide +kernel
theorem dX9_init_167 : decode cX9_init 167 = .ok (.newarray .int, 2) := by decide +kernel
theorem dX9_init_169 : decode cX9_init 169 = .ok (.putfield 100, 3) := by decide +kernel
theorem dX9_init_172 : decode cX9_init 172 = .ok (.aload_n 0, 1) := by decide +kernel
theorem dX9_init_173 : decode cX9_init 173 = .ok (.lconst 0, 1) := by decide +kernel
theorem dX9_init_174 : decode cX9_init 174 = .ok (.putfield 104, 3) := by decide +kernel
theorem dX9_init_177 : decode cX9_init 177 = .ok (.iconst 0, 1) := by decide +kernel
theorem dX9_init_178 : decode cX9_init 178 = .ok (.istore_n 1, 1) := by decide +kernel
theorem dX9_init_179 : decode cX9_init 179 = .ok (.iload_n 1, 1) := by decide +kernel
theorem dX9_init_180 : decode cX9_init 180 = .ok (.aload_n 0, 1) := by decide +kernel
theorem dX9_init_181 : decode cX9_init 181 = .ok (.getfield 28, 3) := by decide +kernel
theorem dX9_init_184 : decode cX9_init 184 = .ok (.arraylength, 1) := by decide +kernel
theorem dX9_init_185 : decode cX9_init 185 = .ok (.if_icmp .ge 22, 3) := by decide +kernel
theorem dX9_init_188 : decode cX9_init 188 = .ok (.aload_n 0, 1) := by decide +kernel
theorem dX9_init_189 : decode cX9_init 189 = .ok (.getfield 28, 3) := by decide +kernel
theorem dX9_init_192 : decode cX9_init 192 = .ok (.iload_n 1, 1) := by decide +kernel
theorem dX9_init_193 : decode cX9_init 193 = .ok (.new 26, 3) := by decide +kernel
theorem dX9_init_196 : decode cX9_init 196 = .ok (.dup, 1) := by decide +kernel
theorem dX9_init_197 : decode cX9_init 197 = .ok (.invokespecial 108, 3) := by decide +kernel
theorem dX9_init_200 : decode cX9_init 200 = .ok (.aastore, 1) := by decide +kernel
theorem dX9_init_201 : decode cX9_init 201 = .ok (.iinc 1 1, 3) := by decide +kernel
theorem dX9_init_204 : decode cX9_init 204 = .ok (.goto (-25), 3) := by decide +kernel
theorem dX9_init_207 : decode cX9_init 207 = .ok (.iconst 0, 1) := by decide +kernel
theorem dX9_init_208 : decode cX9_init 208 = .ok (.istore_n 1, 1) := by decide +kernel
theorem dX9_init_209 : decode cX9_init 209 = .ok (.iload_n 1, 1) := by decide +kernel
theorem dX9_init_210 : decode cX9_init 210 = .ok (.aload_n 0, 1) := by decide +kernel
theorem dX9_init_211 : decode cX9_init 211 = .ok (.getfield 34, 3) := by decide +kernel
theorem dX9_init_214 : decode cX9_init 214 = .ok (.arraylength, 1) := by decide +kernel
theorem dX9_init_215 : decode cX9_init 215 = .ok (.if_icmp .ge 22, 3) := by decide +kernel
theorem dX9_init_218 : decode cX9_init 218 = .ok (.aload_n 0, 1) := by decide +kernel
theorem dX9_init_219 : decode cX9_init 219 = .ok (.getfield 34, 3) := by decide +kernel
theorem dX9_init_222 : decode cX9_init 222 = .ok (.iload_n 1, 1) := by decide +kernel
theorem dX9_init_223 : decode cX9_init 223 = .ok (.new 32, 3) := by decide +kernel
theorem dX9_init_226 : decode cX9_init 226 = .ok (.dup, 1) := by decide +kernel
theorem dX9_init_227 : decode cX9_init 227 = .ok (.invokespecial 109, 3) := by decide +kernel
theorem dX9_init_230 : decode cX9_init 230 = .ok (.aastore, 1) := by decide +kernel
theorem dX9_init_231 : decode cX9_init 231 = .ok (.iinc 1 1, 3) := by decide +kernel
theorem dX9_init_234 : decode cX9_init 234 = .ok (.goto (-25), 3) := by decide +kernel
theorem dX9_init_237 : decode cX9_init 237 = .ok (.iconst 0, 1) := by decide +kernel
theorem dX9_init_238 : decode cX9_init 238 = .ok (.istore_n 1, 1) := by decide +kernel
theorem dX9_init_239 : decode cX9_init 239 = .ok (.iload_n 1, 1) := by decide +kernel
theorem dX9_init_240 : decode cX9_init 240 = .ok (.aload_n 0, 1) := by decide +kernel
theorem dX9_init_241 : decode cX9_init 241 = .ok (.getfield 68, 3) := by decide +kernel
theorem dX9_init_244 : decode cX9_init 244 = .ok (.arraylength, 1) := by decide +kernel
theorem dX9_init_245 : decode cX9_init 245 = .ok (.if_icmp .ge 22, 3) := by decide +kernel
theorem dX9_init_248 : decode cX9_init 248 = .ok (.aload_n 0, 1) := by decide +kernel
theorem dX9_init_249 : decode cX9_init 249 = .ok (.getfield 68, 3) := by decide +kernel
theorem dX9_init_252 : decode cX9_init 252 = .ok (.iload_n 1, 1) := by decide +kernel
theorem dX9_init_253 : decode cX9_init 253 = .ok (.new 51, 3) := by decide +kernel
theorem dX9_init_256 : decode cX9_init 256 = .ok (.dup, 1) := by decide +kernel
theorem dX9_init_257 : decode cX9_init 257 = .ok (.invokespecial 53, 3) := by decide +kernel
theorem dX9_init_260 : decode cX9_init 260 = .ok (.aastore, 1) := by decide +kernel
theorem dX9_init_261 : decode cX9_init 261 = .ok (.iinc 1 1, 3) := by decide +kernel
theorem dX9_init_264 : decode cX9_init 264 = .ok (.goto (-25), 3) := by decide +kernel
theorem dX9_init_267 : decode cX9_init 267 = .ok (.return_, 1) := by decide +kernel
def N_Cc_init : Mt := (yX9_init, cX9_init, 2, none)
theorem mt_Cc_init : MT N_Cc_init 0 := ⟨WS_of (w := Cond.code yX9_init cX9_init 2 none) (List.mem_append_right _ (List.mem_append_left _ (List.mem_of_getElem? (i := 26) (by decide +kernel)))) (by decide +kernel), WS_of (w := Cond.initialized RX9) (List.mem_append_right _ (List.mem_append_left _ (List.mem_of_getElem? (i := 1) (by decide +kernel)))) (by decide +kernel), ⟨by decide, by decide, by decide +kernel⟩, by decide⟩
theorem st_Cc_init : Cond.instanceMethod N_Cc_init.1 ∈ WS ∧ N_Cc_init.1.name = "<init>" := ⟨WS_of (w := Cond.instanceMethod yX9_init) (List.mem_append_right _ (List.mem_append_left _ (List.mem_of_getElem? (i := 25) (by decide +kernel)))) (by decide +kernel), rfl⟩
theorem fresh_0 {ω : Wd} {pt : Ptr} {h : Hp} {a : Int} (h1 : ∀ k : Nat, k < 3 → pt a k = -1) (h2 : ∀ j, h a j = 0) : ∀ q, vwCl[0]? = some q → q.2.2 = 6 ∧ ∀ k : Nat, k < 6 → fV ω pt h (fkd 0 k) a k = defaultValue (tyf 0 k) := by
  intro q hq
  cases hq
  refine ⟨rfl, fun k hk => ?_⟩
  have : k = 0 ∨ k = 1 ∨ k = 2 ∨ k = 3 ∨ k = 4 ∨ k = 5 := by omega
  rcases this with rfl | rfl | rfl | rfl | rfl | rfl
  · show aV ω (pt a (0 : Nat)) = .null; rw [h1 0 (by decide)]; rfl
  · show aV ω (pt a (1 : Nat)) = .null; rw [h1 1 (by decide)]; rfl
  · show aV ω (pt a (2 : Nat)) = .null; rw [h1 2 (by decide)]; rfl
  all_goals (show iV (h a _) = _; rw [h2]; rfl)
theorem fresh_1 {ω : Wd} {pt : Ptr} {h : Hp} {a : Int} (h1 : ∀ k : Nat, k < 4 → pt a k = -1) (h2 : ∀ j, h a j = 0) : ∀ q, vwCl[1]? = some q → q.2.2 = 5 ∧ ∀ k : Nat, k < 5 → fV ω pt h (fkd 1 k) a k = defaultValue (tyf 1 k) := by
  intro q hq
  cases hq
  refine ⟨rfl, fun k hk => ?_⟩
  have : k = 0 ∨ k = 1 ∨ k = 2 ∨ k = 3 ∨ k = 4 := by omega
  rcases this with rfl | rfl | rfl | rfl | rfl
  · show aV ω (pt a (0 : Nat)) = .null; rw [h1 0 (by decide)]; rfl
  · show aV ω (pt a (1 : Nat)) = .null; rw [h1 1 (by decide)]; rfl
  · show aV ω (pt a (2 : Nat)) = .null; rw [h1 2 (by decide)]; rfl
  · show aV ω (pt a (3 : Nat)) = .null; rw [h1 3 (by decide)]; rfl
  all_goals (show iV (h a _) = _; rw [h2]; rfl)
theorem fresh_2 {ω : Wd} {pt : Ptr} {h : Hp} {a : Int} (h1 : ∀ k : Nat, k < 2 → pt a k = -1) (h2 : ∀ j, h a j = 0) : ∀ q, vwCl[2]? = some q → q.2.2 = 4 ∧ ∀ k : Nat, k < 4 → fV ω pt h (fkd 2 k) a k = defaultValue (tyf 2 k) := by
  intro q hq
  cases hq
  refine ⟨rfl, fun k hk => ?_⟩
  have : k = 0 ∨ k = 1 ∨ k = 2 ∨ k = 3 := by omega
  rcases this with rfl | rfl | rfl | rfl
  · show aV ω (pt a (0 : Nat)) = .null; rw [h1 0 (by decide)]; rfl
  · show aV ω (pt a (1 : Nat)) = .null; rw [h1 1 (by decide)]; rfl
  all_goals (show iV (h a _) = _; rw [h2]; rfl)
theorem fresh_3 {ω : Wd} {pt : Ptr} {h : Hp} {a : Int} (h1 : ∀ k : Nat, k < 2 → pt a k = -1) (h2 : ∀ j, h a j = 0) : ∀ q, vwCl[3]? = some q → q.2.2 = 2 ∧ ∀ k : Nat, k < 2 → fV ω pt h (fkd 3 k) a k = defaultValue (tyf 3 k) := by
  intro q hq
  cases hq
  refine ⟨rfl, fun k hk => ?_⟩
  have : k = 0 ∨ k = 1 := by omega
  rcases this with rfl | rfl
  · show aV ω (pt a (0 : Nat)) = .null; rw [h1 0 (by decide)]; rfl
  · show aV ω (pt a (1 : Nat)) = .null; rw [h1 1 (by decide)]; rfl
theorem fresh_4 {ω : Wd} {pt : Ptr} {h : Hp} {a : Int} (h1 : ∀ k : Nat, k < 1 → pt a k = -1) (h2 : ∀ j, h a j = 0) : ∀ q, vwCl[4]? = some q → q.2.2 = 3 ∧ ∀ k : Nat, k < 3 → fV ω pt h (fkd 4 k) a k = defaultValue (tyf 4 k) := by
  intro q hq
  cases hq
  refine ⟨rfl, fun k hk => ?_⟩
  have : k = 0 ∨ k = 1 ∨ k = 2 := by omega
  rcases this with rfl | rfl | rfl
  · show aV ω (pt a (0 : Nat)) = .null; rw [h1 0 (by decide)]; rfl
  all_goals (show iV (h a _) = _; rw [h2]; rfl)
theorem fresh_5 {ω : Wd} {pt : Ptr} {h : Hp} {a : Int} (h1 : ∀ k : Nat, k < 2 → pt a k = -1) (h2 : ∀ j, h a j = 0) : ∀ q, vwCl[5]? = some q → q.2.2 = 4 ∧ ∀ k : Nat, k < 4 → fV ω pt h (fkd 5 k) a k = defaultValue (tyf 5 k) := by
  intro q hq
  cases hq
  refine ⟨rfl, fun k hk => ?_⟩
  have : k = 0 ∨ k = 1 ∨ k = 2 ∨ k = 3 := by omega
  rcases this with rfl | rfl | rfl | rfl
  · show aV ω (pt a (0 : Nat)) = .null; rw [h1 0 (by decide)]; rfl
  · show aV ω (pt a (1 : Nat)) = .null; rw [h1 1 (by decide)]; rfl
  all_goals (show iV (h a _) = _; rw [h2]; rfl)
theorem fresh_6 {ω : Wd} {pt : Ptr} {h : Hp} {a : Int} (h1 : ∀ k : Nat, k < 1 → pt a k = -1) (h2 : ∀ j, h a j = 0) : ∀ q, vwCl[6]? = some q → q.2.2 = 2 ∧ ∀ k : Nat, k < 2 → fV ω pt h (fkd 6 k) a k = defaultValue (tyf 6 k) := by
  intro q hq
  cases hq
  refine ⟨rfl, fun k hk => ?_⟩
  have : k = 0 ∨ k = 1 := by omega
  rcases this with rfl | rfl
  · show aV ω (pt a (0 : Nat)) = .null; rw [h1 0 (by decide)]; rfl
  all_goals (show iV (h a _) = _; rw [h2]; rfl)
theorem fresh_8 {ω : Wd} {pt : Ptr} {h : Hp} {a : Int} (h1 : ∀ k : Nat, k < 1 → pt a k = -1) (h2 : ∀ j, h a j = 0) : ∀ q, vwCl[8]? = some q → q.2.2 = 4 ∧ ∀ k : Nat, k < 4 → fV ω pt h (fkd 8 k) a k = defaultValue (tyf 8 k) := by
  intro q hq
  cases hq
  refine ⟨rfl, fun k hk => ?_⟩
  have : k = 0 ∨ k = 1 ∨ k = 2 ∨ k = 3 := by omega
  rcases this with rfl | rfl | rfl | rfl
  · show aV ω (pt a (0 : Nat)) = .null; rw [h1 0 (by decide)]; rfl
  all_goals (show iV (h a _) = _; rw [h2]; rfl)
/-- the heap at the start, and while the court is made -/
def hI : Hp := fun a k => if (a = 20 ∧ (k = 1 ∨ k = 2)) ∨ (a = 2000 ∧ k = 5) then -1 else 0
abbrev hC0 : Hp := up hI 21 3 (-1)
abbrev hC1 : Hp := up hC0 20 1 30
abbrev hC2 : Hp := up hC1 20 2 40
abbrev hC3 : Hp := up hC2 20 6 (-1)
abbrev hC4 : Hp := up hC3 20 8 3
theorem zI {b : Int} (h1 : b ≠ 20) (h2 : b ≠ 2000) (j : Int) : hI b j = 0 := if_neg (by omega)
theorem zC0 {b : Int} (h0 : b ≠ 21) (h1 : b ≠ 20) (h2 : b ≠ 2000) (j : Int) : hC0 b j = 0 := (up_ne h0 j).trans (zI h1 h2 j)
theorem zC1 {b : Int} (h0 : b ≠ 21) (h1 : b ≠ 20) (h2 : b ≠ 2000) (j : Int) : hC1 b j = 0 := (up_ne h1 j).trans (zC0 h0 h1 h2 j)
theorem zC2 {b : Int} (h0 : b ≠ 21) (h1 : b ≠ 20) (h2 : b ≠ 2000) (j : Int) : hC2 b j = 0 := (up_ne h1 j).trans (zC1 h0 h1 h2 j)
theorem zC4 {b : Int} (h0 : b ≠ 21) (h1 : b ≠ 20) (h2 : b ≠ 2000) (j : Int) : hC4 b j = 0 := (up_ne h1 j).trans ((up_ne h1 j).trans (zC2 h0 h1 h2 j))
theorem sN_at (a : Int) (i : Nat) (q : Nat × Nat) (h : orA a = i ∧ adA i = a ∧ SH a = q) (n : Nat) (hn : i < n) : sN n a = q := by
  rw [sN_is a (by rw [h.1]; exact hn) (by rw [h.1]; exact h.2.1)]; exact h.2.2
theorem pN_at (a k : Int) (i : Nat) (b : Int) (h : tmA a k = i ∧ asA i = (a, k) ∧ PT a k = b) (t : Nat) (ht : i < t) : pN t a k = b := by
  rw [pN_is a k (by rw [h.1]; exact ht) (by rw [h.1]; exact h.2.1)]; exact h.2.2
theorem sC {n : Nat} (h : 0 < n) : (sN n 20).1 = 9 := by rw [sN_at 20 0 (9, 0) (by decide +kernel) n h]
theorem fz_la (j : Nat) (hj : j < 7) : F_St (274 + 5 * j) (270 + 5 * j) (130 + 10 * (j : Int)) := F_St_all (f := fun j => 274 + 5 * j) (g := fun j => 270 + 5 * j) (e := fun j => 130 + 10 * (j : Int)) (by decide +kernel) j hj
theorem fy_la : ∀ j : Nat, j < 7 → adA (273 + 5 * j) = 130 + 10 * (j : Int) ∧ SH (130 + 10 * (j : Int)) = (7, 0) ∧ asA (270 + 5 * j + 4) = (52, (j : Int)) ∧ PT 52 j = 130 + 10 * (j : Int) ∧ (∀ k : Nat, k < 4 → 270 + 5 * j ≤ tmA (130 + 10 * (j : Int)) k) ∧ orA (130 + 10 * (j : Int)) < 274 + 5 * j ∧ adA (orA (130 + 10 * (j : Int))) = 130 + 10 * (j : Int) := by decide +kernel
theorem sN_52 (n : Nat) (h : 28 < n) : sN n 52 = (112, 7) := sN_at 52 28 _ (by decide +kernel) n h
theorem pN_52 (t : Nat) (h : 25 < t) : pN t 20 13 = 52 := pN_at 20 13 25 _ (by decide +kernel) t h
theorem L_la {ω : Wd} (hω : OKw ω) : ∀ (f j : Nat), j + f = 7 → Ev ω N_Cc_init 3 (PQm ω (QK ω 308 305 hC4) 307 6791) 307 6791 (272 + 5 * j) (6336 + 65 * j) (sN (273 + 5 * j)) (pN (270 + 5 * j)) (zz ω (273 + 5 * j)) hC4 239 [some (aV ω 20), some (iV j)] [] := by
  intro f
  induction f with
  | zero =>
    intro j hj
    obtain rfl : j = 7 := by omega
    refine ev_iload_n (pc := 239) (i := 1) dX9_init_239 rfl rfl ?_
    refine ev_aload_n (pc := 240) (i := 0) dX9_init_240 rfl rfl ?_
    refine ev_get (pc := 241) (c9 := 9) (k9 := 13) (v := aV ω 52) dX9_init_241 kf_Cc_68 (by decide) (sC (by omega)) (show aV ω (pN _ 20 13) = _ from by rw [pN_52 _ (by omega)]) ?_
    refine ev_alen (pc := 244) dX9_init_244 (by rw [sN_52 _ (by omega)]; decide) ?_
    rw [sN_52 _ (by omega)]
    refine ev_icmp_ge (pc := 245) (tgt := 267) (A := some true) (B := some false) dX9_init_245 rfl rfl rfl (fun hA => absurd (lt_ge (α := True) hA) (by decide)) (fun hA => ?_)
    exact ev_vret (pc := 267) dX9_init_267 rfl (by decide) (by decide) ⟨rfl, rfl, rfl, rfl, rfl⟩
  | succ f ih =>
    intro j hj
    have hj9 : j < 7 := by omega
    have F := fz_la j hj9
    obtain ⟨f1, f2, f3, f4, f5, f6, f7⟩ := fy_la j hj9
    have hs2 : ∀ n, 274 + 5 * j ≤ n → sN n (130 + 10 * (j : Int)) = (7, 0) := fun n hn => by rw [sN_is _ (Nat.lt_of_lt_of_le f6 hn) f7, f2]
    refine ev_iload_n (pc := 239) (i := 1) dX9_init_239 rfl rfl ?_
    refine ev_aload_n (pc := 240) (i := 0) dX9_init_240 rfl rfl ?_
    refine ev_get (pc := 241) (c9 := 9) (k9 := 13) (v := aV ω 52) dX9_init_241 kf_Cc_68 (by decide) (sC (by omega)) (show aV ω (pN _ 20 13) = _ from by rw [pN_52 _ (by omega)]) ?_
    refine ev_alen (pc := 244) dX9_init_244 (by rw [sN_52 _ (by omega)]; decide) ?_
    rw [sN_52 _ (by omega)]
    refine ev_icmp_ge (pc := 245) (tgt := 267) (A := some true) (B := some false) dX9_init_245 rfl rfl rfl (fun hA => ?_) (fun hA => absurd (show w32 (j : Int) < w32 (7 : Nat) from by rw [w32_nat (by omega), w32_nat (by omega)]; omega) (ge_lt hA))
    refine ev_aload_n (pc := 248) (i := 0) dX9_init_248 rfl rfl ?_
    refine ev_get (pc := 249) (c9 := 9) (k9 := 13) (v := aV ω 52) dX9_init_249 kf_Cc_68 (by decide) (sC (by omega)) (show aV ω (pN _ 20 13) = _ from by rw [pN_52 _ (by omega)]) ?_
    refine ev_iload_n (pc := 252) (i := 1) dX9_init_252 rfl rfl ?_
    refine ev_new (pc := 253) (n := 273 + 5 * j) (c9 := 7) (N9 := 11) (a := 130 + 10 * (j : Int)) hω (by omega) f1 dX9_init_253 kn_Cc_51 (by rw [f2]) (by decide) (fresh_St (fun k hk => pN_no _ (by omega) _ _ (f5 k hk)) (fun i => zC4 (by omega) (by omega) (by omega) i)) (by omega) (by omega) ?_
    refine ev_dup (pc := 256) dX9_init_256 (cat_aV _ _) ?_
    refine ev_callI (pc := 257) (N := N_St_init) (As := []) (n := 0) (c9 := 7) (a := 130 + 10 * (j : Int)) (d' := 1) (mc' := 4) (ms' := 54) (K_St hω (show F_St (273 + 5 * j + 1) (270 + 5 * j) _ from by rw [show 273 + 5 * j + 1 = 274 + 5 * j from by omega]; exact F) (fun b h1 h2 i => zC4 (by omega) (by omega) (by omega) i)) dX9_init_257 mt_St_init rfl st_St_init kl_Cc_53 (by decide) (by rw [hs2 _ (by omega)]) (by decide) rfl (by simp only [List.map, cat_aV, cat_iV, List.sum_cons, List.sum_nil]; decide) (by omega) (by omega) ?_
    rintro v sh' pt' z' h' ⟨rfl, rfl, rfl, rfl, rfl⟩
    refine ev_aast (pc := 260) (t := 270 + 5 * j + 4) (a := 52) (i := j) (c9 := 7) (q9 := (RX7, TX7, 11)) f3 f4 dX9_init_260 (by rw [sN_52 _ (by omega)]; decide) (by decide) (by rw [sN_52 _ (by omega)]; exact hj9) (by rw [sN_52 _ (by omega)]; decide) (by decide) (by rw [hs2 _ (by omega)]) rfl (by rw [sN_52 _ (by omega)]; rfl) ?_
    refine ev_iinc (pc := 261) (i := 1) dX9_init_261 rfl (lnl_v (cat_aV _ _) rfl) (by decide) ?_
    refine ev_goto (pc := 264) (tgt := 239) dX9_init_264 rfl ?_
    have := ih (j + 1) (by omega)
    rw [show 273 + 5 * (j + 1) = 273 + 5 * j + 1 + 4 from by omega, show 270 + 5 * (j + 1) = 270 + 5 * j + 4 + 1 from by omega, show 272 + 5 * (j + 1) = 272 + 5 * j + 1 + 4 from by omega, show 6336 + 65 * (j + 1) = 6336 + 65 * j + 11 + 54 from by omega, show ((j + 1 : Nat) : Int) = (j : Int) + 1 from by omega] at this
    exact this
def dF_Ss (n t : Nat) (x : Int) : Decidable (F_Ss n t x) := by
  repeat' (first | (refine @instDecidableAnd _ _ ?_ ?_) | infer_instance)
theorem F_Ss_all {f g : Nat → Nat} {e : Nat → Int} {N : Nat} (h : (List.range N).all (fun j => @decide _ (dF_Ss (f j) (g j) (e j))) = true) (j : Nat) (hj : j < N) : F_Ss (f j) (g j) (e j) := @of_decide_eq_true _ (dF_Ss (f j) (g j) (e j)) (List.all_eq_true.mp h j (List.mem_range.mpr hj))
theorem fz_ls (j : Nat) (hj : j < 5) : F_Ss (264 + 2 * j) (260 + 2 * j) (1100 + 10 * (j : Int)) := F_Ss_all (f := fun j => 264 + 2 * j) (g := fun j => 260 + 2 * j) (e := fun j => 1100 + 10 * (j : Int)) (by decide +kernel) j hj
theorem fy_ls : ∀ j : Nat, j < 5 → adA (263 + 2 * j) = 1100 + 10 * (j : Int) ∧ SH (1100 + 10 * (j : Int)) = (6, 0) ∧ asA (260 + 2 * j + 1) = (51, (j : Int)) ∧ PT 51 j = 1100 + 10 * (j : Int) ∧ (∀ k : Nat, k < 1 → 260 + 2 * j ≤ tmA (1100 + 10 * (j : Int)) k) ∧ orA (1100 + 10 * (j : Int)) < 264 + 2 * j ∧ adA (orA (1100 + 10 * (j : Int))) = 1100 + 10 * (j : Int) := by decide +kernel
theorem sN_51 (n : Nat) (h : 12 < n) : sN n 51 = (111, 5) := sN_at 51 12 _ (by decide +kernel) n h
theorem pN_51 (t : Nat) (h : 9 < t) : pN t 20 4 = 51 := pN_at 20 4 9 _ (by decide +kernel) t h
theorem L_ls {ω : Wd} (hω : OKw ω) : ∀ (f j : Nat), j + f = 5 → Ev ω N_Cc_init 3 (PQm ω (QK ω 308 305 hC4) 307 6791) 307 6791 (262 + 2 * j) (6086 + 50 * j) (sN (263 + 2 * j)) (pN (260 + 2 * j)) (zz ω (263 + 2 * j)) hC4 209 [some (aV ω 20), some (iV j)] [] := by
  intro f
  induction f with
  | zero =>
    intro j hj
    obtain rfl : j = 5 := by omega
    refine ev_iload_n (pc := 209) (i := 1) dX9_init_209 rfl rfl ?_
    refine ev_aload_n (pc := 210) (i := 0) dX9_init_210 rfl rfl ?_
    refine ev_get (pc := 211) (c9 := 9) (k9 := 4) (v := aV ω 51) dX9_init_211 kf_Cc_34 (by decide) (sC (by omega)) (show aV ω (pN _ 20 4) = _ from by rw [pN_51 _ (by omega)]) ?_
    refine ev_alen (pc := 214) dX9_init_214 (by rw [sN_51 _ (by omega)]; decide) ?_
    rw [sN_51 _ (by omega)]
    refine ev_icmp_ge (pc := 215) (tgt := 237) (A := some true) (B := some false) dX9_init_215 rfl rfl rfl (fun hA => absurd (lt_ge (α := True) hA) (by decide)) (fun hA => ?_)
    refine ev_iconst (pc := 237) dX9_init_237 ?_
    refine ev_istore_n (pc := 238) (i := 1) dX9_init_238 rfl (lnl_v (cat_aV _ _) rfl) (by decide) ?_
    exact L_la hω 7 0 (by decide)
  | succ f ih =>
    intro j hj
    have hj9 : j < 5 := by omega
    have F := fz_ls j hj9
    obtain ⟨f1, f2, f3, f4, f5, f6, f7⟩ := fy_ls j hj9
    have hs2 : ∀ n, 264 + 2 * j ≤ n → sN n (1100 + 10 * (j : Int)) = (6, 0) := fun n hn => by rw [sN_is _ (Nat.lt_of_lt_of_le f6 hn) f7, f2]
    refine ev_iload_n (pc := 209) (i := 1) dX9_init_209 rfl rfl ?_
    refine ev_aload_n (pc := 210) (i := 0) dX9_init_210 rfl rfl ?_
    refine ev_get (pc := 211) (c9 := 9) (k9 := 4) (v := aV ω 51) dX9_init_211 kf_Cc_34 (by decide) (sC (by omega)) (show aV ω (pN _ 20 4) = _ from by rw [pN_51 _ (by omega)]) ?_
    refine ev_alen (pc := 214) dX9_init_214 (by rw [sN_51 _ (by omega)]; decide) ?_
    rw [sN_51 _ (by omega)]
    refine ev_icmp_ge (pc := 215) (tgt := 237) (A := some true) (B := some false) dX9_init_215 rfl rfl rfl (fun hA => ?_) (fun hA => absurd (show w32 (j : Int) < w32 (5 : Nat) from by rw [w32_nat (by omega), w32_nat (by omega)]; omega) (ge_lt hA))
    refine ev_aload_n (pc := 218) (i := 0) dX9_init_218 rfl rfl ?_
    refine ev_get (pc := 219) (c9 := 9) (k9 := 4) (v := aV ω 51) dX9_init_219 kf_Cc_34 (by decide) (sC (by omega)) (show aV ω (pN _ 20 4) = _ from by rw [pN_51 _ (by omega)]) ?_
    refine ev_iload_n (pc := 222) (i := 1) dX9_init_222 rfl rfl ?_
    refine ev_new (pc := 223) (n := 263 + 2 * j) (c9 := 6) (N9 := 2) (a := 1100 + 10 * (j : Int)) hω (by omega) f1 dX9_init_223 kn_Cc_32 (by rw [f2]) (by decide) (fresh_6 (fun k hk => pN_no _ (by omega) _ _ (f5 k hk)) (fun i => zC4 (by omega) (by omega) (by omega) i)) (by omega) (by omega) ?_
    refine ev_dup (pc := 226) dX9_init_226 (cat_aV _ _) ?_
    refine ev_callI (pc := 227) (N := N_Ss_init) (As := []) (n := 0) (c9 := 6) (a := 1100 + 10 * (j : Int)) (d' := 1) (mc' := 1) (ms' := 48) (K_Ss hω (show F_Ss (263 + 2 * j + 1) (260 + 2 * j) _ from by rw [show 263 + 2 * j + 1 = 264 + 2 * j from by omega]; exact F) (fun b h1 h2 i => zC4 (by omega) (by omega) (by omega) i)) dX9_init_227 mt_Ss_init rfl st_Ss_init kl_Cc_109 (by decide) (by rw [hs2 _ (by omega)]) (by decide) rfl (by simp only [List.map, cat_aV, cat_iV, List.sum_cons, List.sum_nil]; decide) (by omega) (by omega) ?_
    rintro v sh' pt' z' h' ⟨rfl, rfl, rfl, rfl, rfl⟩
    refine ev_aast (pc := 230) (t := 260 + 2 * j + 1) (a := 51) (i := j) (c9 := 6) (q9 := (RX6, TX6, 2)) f3 f4 dX9_init_230 (by rw [sN_51 _ (by omega)]; decide) (by decide) (by rw [sN_51 _ (by omega)]; exact hj9) (by rw [sN_51 _ (by omega)]; decide) (by decide) (by rw [hs2 _ (by omega)]) rfl (by rw [sN_51 _ (by omega)]; rfl) ?_
    refine ev_iinc (pc := 231) (i := 1) dX9_init_231 rfl (lnl_v (cat_aV _ _) rfl) (by decide) ?_
    refine ev_goto (pc := 234) (tgt := 209) dX9_init_234 rfl ?_
    have := ih (j + 1) (by omega)
    rw [show 263 + 2 * (j + 1) = 263 + 2 * j + 1 + 1 from by omega, show 260 + 2 * (j + 1) = 260 + 2 * j + 1 + 1 from by omega, show 262 + 2 * (j + 1) = 262 + 2 * j + 1 + 1 from by omega, show 6086 + 50 * (j + 1) = 6086 + 50 * j + 2 + 48 from by omega, show ((j + 1 : Nat) : Int) = (j : Int) + 1 from by omega] at this
    exact this
def dF_Lw (n t : Nat) (x : Int) : Decidable (F_Lw n t x) := by
  repeat' (first | (refine @instDecidableAnd _ _ ?_ ?_) | infer_instance)
theorem F_Lw_all {f g : Nat → Nat} {e : Nat → Int} {N : Nat} (h : (List.range N).all (fun j => @decide _ (dF_Lw (f j) (g j) (e j))) = true) (j : Nat) (hj : j < N) : F_Lw (f j) (g j) (e j) := @of_decide_eq_true _ (dF_Lw (f j) (g j) (e j)) (List.all_eq_true.mp h j (List.mem_range.mpr hj))
theorem fz_ll (j : Nat) (hj : j < 5) : F_Lw (249 + 3 * j) (245 + 3 * j) (1000 + 10 * (j : Int)) := F_Lw_all (f := fun j => 249 + 3 * j) (g := fun j => 245 + 3 * j) (e := fun j => 1000 + 10 * (j : Int)) (by decide +kernel) j hj
theorem fy_ll : ∀ j : Nat, j < 5 → adA (248 + 3 * j) = 1000 + 10 * (j : Int) ∧ SH (1000 + 10 * (j : Int)) = (2, 0) ∧ asA (245 + 3 * j + 2) = (50, (j : Int)) ∧ PT 50 j = 1000 + 10 * (j : Int) ∧ (∀ k : Nat, k < 2 → 245 + 3 * j ≤ tmA (1000 + 10 * (j : Int)) k) ∧ orA (1000 + 10 * (j : Int)) < 249 + 3 * j ∧ adA (orA (1000 + 10 * (j : Int))) = 1000 + 10 * (j : Int) := by decide +kernel
theorem sN_50 (n : Nat) (h : 11 < n) : sN n 50 = (110, 5) := sN_at 50 11 _ (by decide +kernel) n h
theorem pN_50 (t : Nat) (h : 8 < t) : pN t 20 3 = 50 := pN_at 20 3 8 _ (by decide +kernel) t h
theorem L_ll {ω : Wd} (hω : OKw ω) : ∀ (f j : Nat), j + f = 5 → Ev ω N_Cc_init 3 (PQm ω (QK ω 308 305 hC4) 307 6791) 307 6791 (247 + 3 * j) (4466 + 324 * j) (sN (248 + 3 * j)) (pN (245 + 3 * j)) (zz ω (248 + 3 * j)) hC4 179 [some (aV ω 20), some (iV j)] [] := by
  intro f
  induction f with
  | zero =>
    intro j hj
    obtain rfl : j = 5 := by omega
    refine ev_iload_n (pc := 179) (i := 1) dX9_init_179 rfl rfl ?_
    refine ev_aload_n (pc := 180) (i := 0) dX9_init_180 rfl rfl ?_
    refine ev_get (pc := 181) (c9 := 9) (k9 := 3) (v := aV ω 50) dX9_init_181 kf_Cc_28 (by decide) (sC (by omega)) (show aV ω (pN _ 20 3) = _ from by rw [pN_50 _ (by omega)]) ?_
    refine ev_alen (pc := 184) dX9_init_184 (by rw [sN_50 _ (by omega)]; decide) ?_
    rw [sN_50 _ (by omega)]
    refine ev_icmp_ge (pc := 185) (tgt := 207) (A := some true) (B := some false) dX9_init_185 rfl rfl rfl (fun hA => absurd (lt_ge (α := True) hA) (by decide)) (fun hA => ?_)
    refine ev_iconst (pc := 207) dX9_init_207 ?_
    refine ev_istore_n (pc := 208) (i := 1) dX9_init_208 rfl (lnl_v (cat_aV _ _) rfl) (by decide) ?_
    exact L_ls hω 5 0 (by decide)
  | succ f ih =>
    intro j hj
    have hj9 : j < 5 := by omega
    have F := fz_ll j hj9
    obtain ⟨f1, f2, f3, f4, f5, f6, f7⟩ := fy_ll j hj9
    have hs2 : ∀ n, 249 + 3 * j ≤ n → sN n (1000 + 10 * (j : Int)) = (2, 0) := fun n hn => by rw [sN_is _ (Nat.lt_of_lt_of_le f6 hn) f7, f2]
    refine ev_iload_n (pc := 179) (i := 1) dX9_init_179 rfl rfl ?_
    refine ev_aload_n (pc := 180) (i := 0) dX9_init_180 rfl rfl ?_
    refine ev_get (pc := 181) (c9 := 9) (k9 := 3) (v := aV ω 50) dX9_init_181 kf_Cc_28 (by decide) (sC (by omega)) (show aV ω (pN _ 20 3) = _ from by rw [pN_50 _ (by omega)]) ?_
    refine ev_alen (pc := 184) dX9_init_184 (by rw [sN_50 _ (by omega)]; decide) ?_
    rw [sN_50 _ (by omega)]
    refine ev_icmp_ge (pc := 185) (tgt := 207) (A := some true) (B := some false) dX9_init_185 rfl rfl rfl (fun hA => ?_) (fun hA => absurd (show w32 (j : Int) < w32 (5 : Nat) from by rw [w32_nat (by omega), w32_nat (by omega)]; omega) (ge_lt hA))
    refine ev_aload_n (pc := 188) (i := 0) dX9_init_188 rfl rfl ?_
    refine ev_get (pc := 189) (c9 := 9) (k9 := 3) (v := aV ω 50) dX9_init_189 kf_Cc_28 (by decide) (sC (by omega)) (show aV ω (pN _ 20 3) = _ from by rw [pN_50 _ (by omega)]) ?_
    refine ev_iload_n (pc := 192) (i := 1) dX9_init_192 rfl rfl ?_
    refine ev_new (pc := 193) (n := 248 + 3 * j) (c9 := 2) (N9 := 4) (a := 1000 + 10 * (j : Int)) hω (by omega) f1 dX9_init_193 kn_Cc_26 (by rw [f2]) (by decide) (fresh_2 (fun k hk => pN_no _ (by omega) _ _ (f5 k hk)) (fun i => zC4 (by omega) (by omega) (by omega) i)) (by omega) (by omega) ?_
    refine ev_dup (pc := 196) dX9_init_196 (cat_aV _ _) ?_
    refine ev_callI (pc := 197) (N := N_Lw_init) (As := []) (n := 0) (c9 := 2) (a := 1000 + 10 * (j : Int)) (d' := 1) (mc' := 2) (ms' := 320) (K_Lw hω (show F_Lw (248 + 3 * j + 1) (245 + 3 * j) _ from by rw [show 248 + 3 * j + 1 = 249 + 3 * j from by omega]; exact F) (fun b h1 h2 i => zC4 (by omega) (by omega) (by omega) i)) dX9_init_197 mt_Lw_init rfl st_Lw_init kl_Cc_108 (by decide) (by rw [hs2 _ (by omega)]) (by decide) rfl (by simp only [List.map, cat_aV, cat_iV, List.sum_cons, List.sum_nil]; decide) (by omega) (by omega) ?_
    rintro v sh' pt' z' h' ⟨rfl, rfl, rfl, rfl, rfl⟩
    refine ev_aast (pc := 200) (t := 245 + 3 * j + 2) (a := 50) (i := j) (c9 := 2) (q9 := (RX2, TX2, 4)) f3 f4 dX9_init_200 (by rw [sN_50 _ (by omega)]; decide) (by decide) (by rw [sN_50 _ (by omega)]; exact hj9) (by rw [sN_50 _ (by omega)]; decide) (by decide) (by rw [hs2 _ (by omega)]) rfl (by rw [sN_50 _ (by omega)]; rfl) ?_
    refine ev_iinc (pc := 201) (i := 1) dX9_init_201 rfl (lnl_v (cat_aV _ _) rfl) (by decide) ?_
    refine ev_goto (pc := 204) (tgt := 179) dX9_init_204 rfl ?_
    have := ih (j + 1) (by omega)
    rw [show 248 + 3 * (j + 1) = 248 + 3 * j + 1 + 2 from by omega, show 245 + 3 * (j + 1) = 245 + 3 * j + 2 + 1 from by omega, show 247 + 3 * (j + 1) = 247 + 3 * j + 1 + 2 from by omega, show 4466 + 324 * (j + 1) = 4466 + 324 * j + 4 + 320 from by omega, show ((j + 1 : Nat) : Int) = (j : Int) + 1 from by omega] at this
    exact this
set_option maxHeartbeats 2000000 in
set_option maxRecDepth 100000 in
theorem C8_Cc {ω : Wd} (hω : OKw ω) : Ev ω N_Cc_init 3 (PQm ω (QK ω 308 305 hC4) 307 6791) 307 6791 247 4466 (sN 248) (pN 245) (zz ω 248) hC4 172 [some (aV ω 20), none] [] := by
  refine ev_aload_n (pc := 172) (i := 0) dX9_init_172 rfl rfl ?_
  refine ev_lconst (pc := 173) (x := 0) dX9_init_173 rfl ?_
  refine ev_putSL (pc := 174) (c9 := 9) (k9 := 19) (x := 0) dX9_init_174 kf_Cc_104 (by decide) (sC (n := 248) (by decide)) (by decide) (fun q hq => by cases hq; rfl) rfl rfl (by decide) ?_
  refine ev_iconst (pc := 177) dX9_init_177 ?_
  refine ev_istore_n (pc := 178) (i := 1) dX9_init_178 rfl (lnl_v (cat_aV _ _) rfl) (by decide) ?_
  exact L_ll hω 5 0 (by decide)
set_option maxHeartbeats 2000000 in
set_option maxRecDepth 100000 in
theorem C7_Cc {ω : Wd} (hω : OKw ω) : Ev ω N_Cc_init 3 (PQm ω (QK ω 308 305 hC4) 307 6791) 307 6791 243 4374 (sN 244) (pN 241) (zz ω 244) hC4 153 [some (aV ω 20), none] [] := by
  refine ev_aload_n (pc := 153) (i := 0) dX9_init_153 rfl rfl ?_
  refine ev_new (pc := 154) (n := 244) (cl := 243) (sl := 4374) (c9 := 5) (N9 := 4) (a := 70) hω (by decide) (by decide +kernel) dX9_init_154 kn_Cc_93 (by decide +kernel) (by decide) (fresh_5 (fun k hk => pN_no 241 (by decide) 70 k (by have := (by decide +kernel : ∀ k : Nat, k < 2 → 241 ≤ tmA 70 (k : Int)) k hk; exact this)) (fun i => zC4 (by decide) (by decide) (by decide) i)) (by decide) (by decide) ?_
  refine ev_dup (pc := 157) dX9_init_157 (cat_aV _ _) ?_
  refine ev_callI (pc := 158) (cl := 244) (sl := 4378) (N := N_Rw_init) (As := []) (n := 0) (c9 := 5) (a := 70) (d' := 1) (mc' := 2) (ms' := 82) (K_Rw (n := 245) (t := 241) (x := 70) hω (by repeat' (first | (refine And.intro ?_ ?_) | decide +kernel)) (fun b h1 h2 i => zC4 (by omega) (by omega) (by omega) i)) dX9_init_158 mt_Rw_init rfl st_Rw_init kl_Cc_95 (by decide) (by rw [sN_at 70 244 (5, 0) (by decide +kernel) _ (by decide)]) (by decide) rfl (by simp only [List.map, cat_aV, cat_iV, List.sum_cons, List.sum_nil]; decide) (by decide) (by decide) ?_
  rintro v sh' pt' z' h' ⟨rfl, rfl, rfl, rfl, rfl⟩
  refine ev_putF (pc := 161) (t := 243) (c9 := 9) (k9 := 17) (a := 20) (b := 70) (by decide +kernel) (by decide +kernel) dX9_init_161 kf_Cc_96 (by decide) (sC (n := 247) (by decide)) (by decide) (fun q hq => by cases hq; exact ⟨rfl, rfl⟩) rfl rfl rfl ?_
  refine ev_aload_n (pc := 164) (i := 0) dX9_init_164 rfl rfl ?_
  refine ev_bipush (pc := 165) dX9_init_165 (by decide) ?_
  refine ev_newarr (pc := 167) (n := 247) (cl := 246) (sl := 4460) (atype := .int) (a := 75) hω (by decide) (by decide +kernel) dX9_init_167 wa_int (by decide +kernel) (by decide +kernel) (by decide +kernel) (by decide +kernel) (by decide) (by decide +kernel) (fun i => zC4 (by decide) (by decide) (by decide) i) ?_
  rw [show SH 75 = (100, 6) from by decide +kernel]
  refine ev_putF (pc := 169) (t := 244) (c9 := 9) (k9 := 18) (a := 20) (b := 75) (by decide +kernel) (by decide +kernel) dX9_init_169 kf_Cc_100 (by decide) (sC (n := 248) (by decide)) (by decide) (fun q hq => by cases hq; exact ⟨rfl, rfl⟩) rfl rfl rfl ?_
  exact C8_Cc hω
set_option maxHeartbeats 2000000 in
set_option maxRecDepth 100000 in
theorem C6_Cc {ω : Wd} (hω : OKw ω) : Ev ω N_Cc_init 3 (PQm ω (QK ω 308 305 hC4) 307 6791) 307 6791 235 3267 (sN 236) (pN 233) (zz ω 236) hC4 131 [some (aV ω 20), none] [] := by
  refine ev_aload_n (pc := 131) (i := 0) dX9_init_131 rfl rfl ?_
  refine ev_new (pc := 132) (n := 236) (cl := 235) (sl := 3267) (c9 := 3) (N9 := 2) (a := 60) hω (by decide) (by decide +kernel) dX9_init_132 kn_Cc_79 (by decide +kernel) (by decide) (fresh_3 (fun k hk => pN_no 233 (by decide) 60 k (by have := (by decide +kernel : ∀ k : Nat, k < 2 → 233 ≤ tmA 60 (k : Int)) k hk; exact this)) (fun i => zC4 (by decide) (by decide) (by decide) i)) (by decide) (by decide) ?_
  refine ev_dup (pc := 135) dX9_init_135 (cat_aV _ _) ?_
  refine ev_callI (pc := 136) (cl := 236) (sl := 3269) (N := N_Lg_init) (As := []) (n := 0) (c9 := 3) (a := 60) (d' := 1) (mc' := 2) (ms' := 1060) (K_Lg (n := 237) (t := 233) (x := 60) hω (by repeat' (first | (refine And.intro ?_ ?_) | decide +kernel)) (fun b h1 h2 i => zC4 (by omega) (by omega) (by omega) i)) dX9_init_136 mt_Lg_init rfl st_Lg_init kl_Cc_81 (by decide) (by rw [sN_at 60 236 (3, 0) (by decide +kernel) _ (by decide)]) (by decide) rfl (by simp only [List.map, cat_aV, cat_iV, List.sum_cons, List.sum_nil]; decide) (by decide) (by decide) ?_
  rintro v sh' pt' z' h' ⟨rfl, rfl, rfl, rfl, rfl⟩
  refine ev_putF (pc := 139) (t := 235) (c9 := 9) (k9 := 15) (a := 20) (b := 60) (by decide +kernel) (by decide +kernel) dX9_init_139 kf_Cc_82 (by decide) (sC (n := 239) (by decide)) (by decide) (fun q hq => by cases hq; exact ⟨rfl, rfl⟩) rfl rfl rfl ?_
  refine ev_aload_n (pc := 142) (i := 0) dX9_init_142 rfl rfl ?_
  refine ev_new (pc := 143) (n := 239) (cl := 238) (sl := 4329) (c9 := 1) (N9 := 5) (a := 65) hω (by decide) (by decide +kernel) dX9_init_143 kn_Cc_86 (by decide +kernel) (by decide) (fresh_1 (fun k hk => pN_no 236 (by decide) 65 k (by have := (by decide +kernel : ∀ k : Nat, k < 4 → 236 ≤ tmA 65 (k : Int)) k hk; exact this)) (fun i => zC4 (by decide) (by decide) (by decide) i)) (by decide) (by decide) ?_
  refine ev_dup (pc := 146) dX9_init_146 (cat_aV _ _) ?_
  refine ev_callI (pc := 147) (cl := 239) (sl := 4334) (N := N_Gv_init) (As := []) (n := 0) (c9 := 1) (a := 65) (d' := 1) (mc' := 4) (ms' := 40) (K_Gv (n := 240) (t := 236) (x := 65) hω (by repeat' (first | (refine And.intro ?_ ?_) | decide +kernel)) (fun b h1 h2 i => zC4 (by omega) (by omega) (by omega) i)) dX9_init_147 mt_Gv_init rfl st_Gv_init kl_Cc_88 (by decide) (by rw [sN_at 65 239 (1, 0) (by decide +kernel) _ (by decide)]) (by decide) rfl (by simp only [List.map, cat_aV, cat_iV, List.sum_cons, List.sum_nil]; decide) (by decide) (by decide) ?_
  rintro v sh' pt' z' h' ⟨rfl, rfl, rfl, rfl, rfl⟩
  refine ev_putF (pc := 150) (t := 240) (c9 := 9) (k9 := 16) (a := 20) (b := 65) (by decide +kernel) (by decide +kernel) dX9_init_150 kf_Cc_89 (by decide) (sC (n := 244) (by decide)) (by decide) (fun q hq => by cases hq; exact ⟨rfl, rfl⟩) rfl rfl rfl ?_
  exact C7_Cc hω
set_option maxHeartbeats 2000000 in
set_option maxRecDepth 100000 in
theorem C5_Cc {ω : Wd} (hω : OKw ω) : Ev ω N_Cc_init 3 (PQm ω (QK ω 308 305 hC4) 307 6791) 307 6791 27 551 (sN 28) (pN 25) (zz ω 28) hC4 106 [some (aV ω 20), none] [] := by
  refine ev_aload_n (pc := 106) (i := 0) dX9_init_106 rfl rfl ?_
  refine ev_iconst (pc := 107) dX9_init_107 ?_
  refine ev_putS (pc := 108) (c9 := 9) (k9 := 12) (x := 0) dX9_init_108 kf_Cc_64 (by decide) (sC (n := 28) (by decide)) (by decide) (fun q hq => by cases hq; rfl) (Or.inr ⟨rfl, rfl⟩) rfl (by decide) ?_
  refine ev_aload_n (pc := 111) (i := 0) dX9_init_111 rfl rfl ?_
  refine ev_bipush (pc := 112) dX9_init_112 (by decide) ?_
  refine ev_newrefs (pc := 114) (n := 28) (cl := 27) (sl := 551) (a := 52) hω (by decide) (by decide +kernel) dX9_init_114 kr_Cc_51 (by decide) (by decide +kernel) (by decide +kernel) (by decide +kernel) (by decide +kernel) (by decide) (by decide +kernel) (fun k hk => pN_no 25 (by decide) 52 k (by have := (by decide +kernel : ∀ k : Nat, k < 7 → 25 ≤ tmA 52 (k : Int)) k (show k < 7 from hk); exact this)) ?_
  rw [show SH 52 = (112, 7) from by decide +kernel]
  refine ev_putF (pc := 117) (t := 25) (c9 := 9) (k9 := 13) (a := 20) (b := 52) (by decide +kernel) (by decide +kernel) dX9_init_117 kf_Cc_68 (by decide) (sC (n := 29) (by decide)) (by decide) (fun q hq => by cases hq; exact ⟨rfl, rfl⟩) rfl rfl rfl ?_
  refine ev_aload_n (pc := 120) (i := 0) dX9_init_120 rfl rfl ?_
  refine ev_new (pc := 121) (n := 29) (cl := 28) (sl := 558) (c9 := 4) (N9 := 3) (a := 55) hω (by decide) (by decide +kernel) dX9_init_121 kn_Cc_72 (by decide +kernel) (by decide) (fresh_4 (fun k hk => pN_no 26 (by decide) 55 k (by have := (by decide +kernel : ∀ k : Nat, k < 1 → 26 ≤ tmA 55 (k : Int)) k hk; exact this)) (fun i => zC4 (by decide) (by decide) (by decide) i)) (by decide) (by decide) ?_
  refine ev_dup (pc := 124) dX9_init_124 (cat_aV _ _) ?_
  refine ev_callI (pc := 125) (cl := 29) (sl := 561) (N := N_Ps_init) (As := []) (n := 0) (c9 := 4) (a := 55) (d' := 2) (mc' := 206) (ms' := 2706) (K_Ps hω (fun b h1 h2 i => zC4 (by omega) (by omega) (by omega) i) (fun i => zC4 (by decide) (by decide) (by decide) i)) dX9_init_125 mt_Ps_init rfl st_Ps_init kl_Cc_74 (by decide) (by rw [sN_at 55 29 (4, 0) (by decide +kernel) _ (by decide)]) (by decide) rfl (by simp only [List.map, cat_aV, cat_iV, List.sum_cons, List.sum_nil]; decide) (by decide) (by decide) ?_
  rintro v sh' pt' z' h' ⟨rfl, rfl, rfl, rfl, rfl⟩
  refine ev_putF (pc := 128) (t := 232) (c9 := 9) (k9 := 14) (a := 20) (b := 55) (by decide +kernel) (by decide +kernel) dX9_init_128 kf_Cc_75 (by decide) (sC (n := 236) (by decide)) (by decide) (fun q hq => by cases hq; exact ⟨rfl, rfl⟩) rfl rfl rfl ?_
  exact C6_Cc hω
set_option maxHeartbeats 2000000 in
set_option maxRecDepth 100000 in
theorem C4_Cc {ω : Wd} (hω : OKw ω) : Ev ω N_Cc_init 3 (PQm ω (QK ω 308 305 hC4) 307 6791) 307 6791 17 421 (sN 18) (pN 15) (zz ω 18) hC4 84 [some (aV ω 20), none] [] := by
  refine ev_aload_n (pc := 84) (i := 0) dX9_init_84 rfl rfl ?_
  refine ev_new (pc := 85) (n := 18) (cl := 17) (sl := 421) (c9 := 7) (N9 := 11) (a := 110) hω (by decide) (by decide +kernel) dX9_init_85 kn_Cc_51 (by decide +kernel) (by decide) (fresh_St (fun k hk => pN_no 15 (by decide) 110 k (by have := (by decide +kernel : ∀ k : Nat, k < 4 → 15 ≤ tmA 110 (k : Int)) k hk; exact this)) (fun i => zC4 (by decide) (by decide) (by decide) i)) (by decide) (by decide) ?_
  refine ev_dup (pc := 88) dX9_init_88 (cat_aV _ _) ?_
  refine ev_callI (pc := 89) (cl := 18) (sl := 432) (N := N_St_init) (As := []) (n := 0) (c9 := 7) (a := 110) (d' := 1) (mc' := 4) (ms' := 54) (K_St (n := 19) (t := 15) (x := 110) hω (by repeat' (first | (refine And.intro ?_ ?_) | decide +kernel)) (fun b h1 h2 i => zC4 (by omega) (by omega) (by omega) i)) dX9_init_89 mt_St_init rfl st_St_init kl_Cc_53 (by decide) (by rw [sN_at 110 18 (7, 0) (by decide +kernel) _ (by decide)]) (by decide) rfl (by simp only [List.map, cat_aV, cat_iV, List.sum_cons, List.sum_nil]; decide) (by decide) (by decide) ?_
  rintro v sh' pt' z' h' ⟨rfl, rfl, rfl, rfl, rfl⟩
  refine ev_putF (pc := 92) (t := 19) (c9 := 9) (k9 := 10) (a := 20) (b := 110) (by decide +kernel) (by decide +kernel) dX9_init_92 kf_Cc_58 (by decide) (sC (n := 23) (by decide)) (by decide) (fun q hq => by cases hq; exact ⟨rfl, rfl⟩) rfl rfl rfl ?_
  refine ev_aload_n (pc := 95) (i := 0) dX9_init_95 rfl rfl ?_
  refine ev_new (pc := 96) (n := 23) (cl := 22) (sl := 486) (c9 := 7) (N9 := 11) (a := 120) hω (by decide) (by decide +kernel) dX9_init_96 kn_Cc_51 (by decide +kernel) (by decide) (fresh_St (fun k hk => pN_no 20 (by decide) 120 k (by have := (by decide +kernel : ∀ k : Nat, k < 4 → 20 ≤ tmA 120 (k : Int)) k hk; exact this)) (fun i => zC4 (by decide) (by decide) (by decide) i)) (by decide) (by decide) ?_
  refine ev_dup (pc := 99) dX9_init_99 (cat_aV _ _) ?_
  refine ev_callI (pc := 100) (cl := 23) (sl := 497) (N := N_St_init) (As := []) (n := 0) (c9 := 7) (a := 120) (d' := 1) (mc' := 4) (ms' := 54) (K_St (n := 24) (t := 20) (x := 120) hω (by repeat' (first | (refine And.intro ?_ ?_) | decide +kernel)) (fun b h1 h2 i => zC4 (by omega) (by omega) (by omega) i)) dX9_init_100 mt_St_init rfl st_St_init kl_Cc_53 (by decide) (by rw [sN_at 120 23 (7, 0) (by decide +kernel) _ (by decide)]) (by decide) rfl (by simp only [List.map, cat_aV, cat_iV, List.sum_cons, List.sum_nil]; decide) (by decide) (by decide) ?_
  rintro v sh' pt' z' h' ⟨rfl, rfl, rfl, rfl, rfl⟩
  refine ev_putF (pc := 103) (t := 24) (c9 := 9) (k9 := 11) (a := 20) (b := 120) (by decide +kernel) (by decide +kernel) dX9_init_103 kf_Cc_61 (by decide) (sC (n := 28) (by decide)) (by decide) (fun q hq => by cases hq; exact ⟨rfl, rfl⟩) rfl rfl rfl ?_
  exact C5_Cc hω
set_option maxHeartbeats 2000000 in
set_option maxRecDepth 100000 in
theorem C3_Cc {ω : Wd} (hω : OKw ω) : Ev ω N_Cc_init 3 (PQm ω (QK ω 308 305 hC4) 307 6791) 307 6791 12 356 (sN 13) (pN 10) (zz ω 13) hC3 63 [some (aV ω 20), none] [] := by
  refine ev_aload_n (pc := 63) (i := 0) dX9_init_63 rfl rfl ?_
  refine ev_iconst (pc := 64) dX9_init_64 ?_
  refine ev_putS (pc := 65) (c9 := 9) (k9 := 7) (x := 0) dX9_init_65 kf_Cc_45 (by decide) (sC (n := 13) (by decide)) (by decide) (fun q hq => by cases hq; rfl) (Or.inl rfl) rfl (by decide) ?_
  refine ev_aload_n (pc := 68) (i := 0) dX9_init_68 rfl rfl ?_
  refine ev_iconst (pc := 69) dX9_init_69 ?_
  refine ev_putI (pc := 70) (c9 := 9) (k9 := 8) (x := (3)) dX9_init_70 kf_Cc_48 (by decide) (sC (n := 13) (by decide)) (by decide) (fun q hq => by cases hq; rfl) rfl rfl ?_
  refine ev_aload_n (pc := 73) (i := 0) dX9_init_73 rfl rfl ?_
  refine ev_new (pc := 74) (n := 13) (cl := 12) (sl := 356) (c9 := 7) (N9 := 11) (a := 100) hω (by decide) (by decide +kernel) dX9_init_74 kn_Cc_51 (by decide +kernel) (by decide) (fresh_St (fun k hk => pN_no 10 (by decide) 100 k (by have := (by decide +kernel : ∀ k : Nat, k < 4 → 10 ≤ tmA 100 (k : Int)) k hk; exact this)) (fun i => zC4 (by decide) (by decide) (by decide) i)) (by decide) (by decide) ?_
  refine ev_dup (pc := 77) dX9_init_77 (cat_aV _ _) ?_
  refine ev_callI (pc := 78) (cl := 13) (sl := 367) (N := N_St_init) (As := []) (n := 0) (c9 := 7) (a := 100) (d' := 1) (mc' := 4) (ms' := 54) (K_St (n := 14) (t := 10) (x := 100) hω (by repeat' (first | (refine And.intro ?_ ?_) | decide +kernel)) (fun b h1 h2 i => zC4 (by omega) (by omega) (by omega) i)) dX9_init_78 mt_St_init rfl st_St_init kl_Cc_53 (by decide) (by rw [sN_at 100 13 (7, 0) (by decide +kernel) _ (by decide)]) (by decide) rfl (by simp only [List.map, cat_aV, cat_iV, List.sum_cons, List.sum_nil]; decide) (by decide) (by decide) ?_
  rintro v sh' pt' z' h' ⟨rfl, rfl, rfl, rfl, rfl⟩
  refine ev_putF (pc := 81) (t := 14) (c9 := 9) (k9 := 9) (a := 20) (b := 100) (by decide +kernel) (by decide +kernel) dX9_init_81 kf_Cc_54 (by decide) (sC (n := 18) (by decide)) (by decide) (fun q hq => by cases hq; exact ⟨rfl, rfl⟩) rfl rfl rfl ?_
  exact C4_Cc hω
set_option maxHeartbeats 2000000 in
set_option maxRecDepth 100000 in
theorem C2_Cc {ω : Wd} (hω : OKw ω) : Ev ω N_Cc_init 3 (PQm ω (QK ω 308 305 hC4) 307 6791) 307 6791 11 351 (sN 12) (pN 9) (zz ω 12) hC2 45 [some (aV ω 20), none] [] := by
  refine ev_aload_n (pc := 45) (i := 0) dX9_init_45 rfl rfl ?_
  refine ev_iconst (pc := 46) dX9_init_46 ?_
  refine ev_newrefs (pc := 47) (n := 12) (cl := 11) (sl := 351) (a := 51) hω (by decide) (by decide +kernel) dX9_init_47 kr_Cc_32 (by decide) (by decide +kernel) (by decide +kernel) (by decide +kernel) (by decide +kernel) (by decide) (by decide +kernel) (fun k hk => pN_no 9 (by decide) 51 k (by have := (by decide +kernel : ∀ k : Nat, k < 5 → 9 ≤ tmA 51 (k : Int)) k (show k < 5 from hk); exact this)) ?_
  rw [show SH 51 = (111, 5) from by decide +kernel]
  refine ev_putF (pc := 50) (t := 9) (c9 := 9) (k9 := 4) (a := 20) (b := 51) (by decide +kernel) (by decide +kernel) dX9_init_50 kf_Cc_34 (by decide) (sC (n := 13) (by decide)) (by decide) (fun q hq => by cases hq; exact ⟨rfl, rfl⟩) rfl rfl rfl ?_
  refine ev_aload_n (pc := 53) (i := 0) dX9_init_53 rfl rfl ?_
  refine ev_iconst (pc := 54) dX9_init_54 ?_
  refine ev_putS (pc := 55) (c9 := 9) (k9 := 5) (x := 0) dX9_init_55 kf_Cc_38 (by decide) (sC (n := 13) (by decide)) (by decide) (fun q hq => by cases hq; rfl) (Or.inl rfl) rfl (by decide) ?_
  refine ev_aload_n (pc := 58) (i := 0) dX9_init_58 rfl rfl ?_
  refine ev_iconst (pc := 59) dX9_init_59 ?_
  refine ev_putI (pc := 60) (c9 := 9) (k9 := 6) (x := (-1)) dX9_init_60 kf_Cc_42 (by decide) (sC (n := 13) (by decide)) (by decide) (fun q hq => by cases hq; rfl) rfl rfl ?_
  exact C3_Cc hω
set_option maxHeartbeats 2000000 in
set_option maxRecDepth 100000 in
theorem C1_Cc {ω : Wd} (hω : OKw ω) : Ev ω N_Cc_init 3 (PQm ω (QK ω 308 305 hC4) 307 6791) 307 6791 6 295 (sN 7) (pN 5) (zz ω 7) hC1 26 [some (aV ω 20), none] [] := by
  refine ev_aload_n (pc := 26) (i := 0) dX9_init_26 rfl rfl ?_
  refine ev_new (pc := 27) (n := 7) (cl := 6) (sl := 295) (c9 := 0) (N9 := 6) (a := 40) hω (by decide) (by decide +kernel) dX9_init_27 kn_Cc_16 (by decide +kernel) (by decide) (fresh_0 (fun k hk => pN_no 5 (by decide) 40 k (by have := (by decide +kernel : ∀ k : Nat, k < 3 → 5 ≤ tmA 40 (k : Int)) k hk; exact this)) (fun i => zC1 (by decide) (by decide) (by decide) i)) (by decide) (by decide) ?_
  refine ev_dup (pc := 30) dX9_init_30 (cat_aV _ _) ?_
  refine ev_callI (pc := 31) (cl := 7) (sl := 301) (N := N_Cy_init) (As := []) (n := 0) (c9 := 0) (a := 40) (d' := 1) (mc' := 3) (ms' := 45) (K_Cy (n := 8) (t := 5) (x := 40) hω (by repeat' (first | (refine And.intro ?_ ?_) | decide +kernel)) (fun b h1 h2 i => zC1 (by omega) (by omega) (by omega) i)) dX9_init_31 mt_Cy_init rfl st_Cy_init kl_Cc_18 (by decide) (by rw [sN_at 40 7 (0, 0) (by decide +kernel) _ (by decide)]) (by decide) rfl (by simp only [List.map, cat_aV, cat_iV, List.sum_cons, List.sum_nil]; decide) (by decide) (by decide) ?_
  rintro v sh' pt' z' h' ⟨rfl, rfl, rfl, rfl, rfl⟩
  refine ev_putA (pc := 34) (c9 := 9) (k9 := 2) (x := 40) dX9_init_34 kf_Cc_23 (by decide) (sC (n := 11) (by decide)) (by decide) (fun q hq => by cases hq; rfl) rfl rfl ?_
  refine ev_aload_n (pc := 37) (i := 0) dX9_init_37 rfl rfl ?_
  refine ev_iconst (pc := 38) dX9_init_38 ?_
  refine ev_newrefs (pc := 39) (n := 11) (cl := 10) (sl := 346) (a := 50) hω (by decide) (by decide +kernel) dX9_init_39 kr_Cc_26 (by decide) (by decide +kernel) (by decide +kernel) (by decide +kernel) (by decide +kernel) (by decide) (by decide +kernel) (fun k hk => pN_no 8 (by decide) 50 k (by have := (by decide +kernel : ∀ k : Nat, k < 5 → 8 ≤ tmA 50 (k : Int)) k (show k < 5 from hk); exact this)) ?_
  rw [show SH 50 = (110, 5) from by decide +kernel]
  refine ev_putF (pc := 42) (t := 8) (c9 := 9) (k9 := 3) (a := 20) (b := 50) (by decide +kernel) (by decide +kernel) dX9_init_42 kf_Cc_28 (by decide) (sC (n := 12) (by decide)) (by decide) (fun q hq => by cases hq; exact ⟨rfl, rfl⟩) rfl rfl rfl ?_
  exact C2_Cc hω
set_option maxHeartbeats 2000000 in
set_option maxRecDepth 100000 in
theorem C0_Cc {ω : Wd} (hω : OKw ω) : Ev ω N_Cc_init 3 (PQm ω (QK ω 308 305 hC4) 307 6791) 307 6791 0 0 (sN 1) (pN 0) (zz ω 1) hI 0 [some (aV ω 20), none] [] := by
  refine ev_aload_n (pc := 0) (i := 0) dX9_init_0 rfl rfl ?_
  refine ev_objInit (pc := 1) dX9_init_1 wo_Cc wo_i wo_c (by decide) (by decide) (by decide) ?_
  refine ev_aload_n (pc := 4) (i := 0) dX9_init_4 rfl rfl ?_
  refine ev_new (pc := 5) (n := 1) (cl := 0) (sl := 0) (c9 := 8) (N9 := 4) (a := 21) hω (by decide) (by decide +kernel) dX9_init_5 kn_Cc_7 (by decide +kernel) (by decide) (fresh_8 (fun k hk => pN_no 0 (by decide) 21 k (by have := (by decide +kernel : ∀ k : Nat, k < 1 → 0 ≤ tmA 21 (k : Int)) k hk; exact this)) (fun i => zI (by decide) (by decide) i)) (by decide) (by decide) ?_
  refine ev_dup (pc := 8) dX9_init_8 (cat_aV _ _) ?_
  refine ev_callI (pc := 9) (cl := 1) (sl := 4) (N := N_Tp_init) (As := []) (n := 0) (c9 := 8) (a := 21) (d' := 1) (mc' := 1) (ms' := 240) (K_Tp (n := 2) (t := 0) (x := 21) hω (by repeat' (first | (refine And.intro ?_ ?_) | decide +kernel)) (fun b h1 h2 i => zI (by omega) (by omega) i)) dX9_init_9 mt_Tp_init rfl st_Tp_init kl_Cc_9 (by decide) (by rw [sN_at 21 1 (8, 0) (by decide +kernel) _ (by decide)]) (by decide) rfl (by simp only [List.map, cat_aV, cat_iV, List.sum_cons, List.sum_nil]; decide) (by decide) (by decide) ?_
  rintro v sh' pt' z' h' ⟨rfl, rfl, rfl, rfl, rfl⟩
  refine ev_putF (pc := 12) (t := 1) (c9 := 9) (k9 := 0) (a := 20) (b := 21) (by decide +kernel) (by decide +kernel) dX9_init_12 kf_Cc_10 (by decide) (sC (n := 3) (by decide)) (by decide) (fun q hq => by cases hq; exact ⟨rfl, rfl⟩) rfl rfl rfl ?_
  refine ev_aload_n (pc := 15) (i := 0) dX9_init_15 rfl rfl ?_
  refine ev_new (pc := 16) (n := 3) (cl := 2) (sl := 244) (c9 := 0) (N9 := 6) (a := 30) hω (by decide) (by decide +kernel) dX9_init_16 kn_Cc_16 (by decide +kernel) (by decide) (fresh_0 (fun k hk => pN_no 2 (by decide) 30 k (by have := (by decide +kernel : ∀ k : Nat, k < 3 → 2 ≤ tmA 30 (k : Int)) k hk; exact this)) (fun i => zC0 (by decide) (by decide) (by decide) i)) (by decide) (by decide) ?_
  refine ev_dup (pc := 19) dX9_init_19 (cat_aV _ _) ?_
  refine ev_callI (pc := 20) (cl := 3) (sl := 250) (N := N_Cy_init) (As := []) (n := 0) (c9 := 0) (a := 30) (d' := 1) (mc' := 3) (ms' := 45) (K_Cy (n := 4) (t := 2) (x := 30) hω (by repeat' (first | (refine And.intro ?_ ?_) | decide +kernel)) (fun b h1 h2 i => zC0 (by omega) (by omega) (by omega) i)) dX9_init_20 mt_Cy_init rfl st_Cy_init kl_Cc_18 (by decide) (by rw [sN_at 30 3 (0, 0) (by decide +kernel) _ (by decide)]) (by decide) rfl (by simp only [List.map, cat_aV, cat_iV, List.sum_cons, List.sum_nil]; decide) (by decide) (by decide) ?_
  rintro v sh' pt' z' h' ⟨rfl, rfl, rfl, rfl, rfl⟩
  refine ev_putA (pc := 23) (c9 := 9) (k9 := 1) (x := 30) dX9_init_23 kf_Cc_19 (by decide) (sC (n := 7) (by decide)) (by decide) (fun q hq => by cases hq; rfl) rfl rfl ?_
  exact C1_Cc hω
theorem K_Cc {ω : Wd} (hω : OKw ω) : Ct ω N_Cc_init 3 [aV ω 20] (sN 1) (pN 0) (zz ω 1) hI 307 6791 (QK ω 308 305 hC4) :=
  Ct_of (lv := [some (aV ω 20), none]) (by decide) (Nat.le_trans (sl_1 (cat_aV _ _) sl_z) (Nat.le_of_ble_eq_true rfl)) (la_1 (cat_aV _ _) (by rfl)) (C0_Cc hω)
end Court
