section MadeR
theorem wo_Md : Cond.methodLink RX10 3 objectInit ∈ WS := WS_of (w := Cond.methodLink RX10 3 objectInit) (List.mem_append_right _ (List.mem_append_right _ (List.mem_append_right _ (List.mem_append_right _ (List.mem_append_right _ (List.mem_append_left _ (List.mem_of_getElem? (i := 131) (by decide +kernel)))))))) (by decide +kernel)
theorem kf_Md_9 : FL RX10 9 10 1 := ⟨(RX10, TX10, 54), rfl, by decide, WS_of (w := Cond.fieldLink RX10 9 (TX10 1).1 (TX10 1).2.1 (TX10 1).2.2.1) (List.mem_append_right _ (List.mem_append_right _ (List.mem_append_right _ (List.mem_append_right _ (List.mem_append_right _ (List.mem_append_left _ (List.mem_of_getElem? (i := 135) (by decide +kernel)))))))) (by decide +kernel)⟩
theorem kf_Md_13 : FL RX10 13 10 2 := ⟨(RX10, TX10, 54), rfl, by decide, WS_of (w := Cond.fieldLink RX10 13 (TX10 2).1 (TX10 2).2.1 (TX10 2).2.2.1) (List.mem_append_right _ (List.mem_append_right _ (List.mem_append_right _ (List.mem_append_right _ (List.mem_append_right _ (List.mem_append_left _ (List.mem_of_getElem? (i := 136) (by decide +kernel)))))))) (by decide +kernel)⟩
theorem kf_Md_16 : FL RX10 16 10 3 := ⟨(RX10, TX10, 54), rfl, by decide, WS_of (w := Cond.fieldLink RX10 16 (TX10 3).1 (TX10 3).2.1 (TX10 3).2.2.1) (List.mem_append_right _ (List.mem_append_right _ (List.mem_append_right _ (List.mem_append_right _ (List.mem_append_right _ (List.mem_append_left _ (List.mem_of_getElem? (i := 137) (by decide +kernel)))))))) (by decide +kernel)⟩
theorem kf_Md_20 : FL RX10 20 10 4 := ⟨(RX10, TX10, 54), rfl, by decide, WS_of (w := Cond.fieldLink RX10 20 (TX10 4).1 (TX10 4).2.1 (TX10 4).2.2.1) (List.mem_append_right _ (List.mem_append_right _ (List.mem_append_right _ (List.mem_append_right _ (List.mem_append_right _ (List.mem_append_left _ (List.mem_of_getElem? (i := 138) (by decide +kernel)))))))) (by decide +kernel)⟩
theorem kf_Md_23 : FL RX10 23 10 5 := ⟨(RX10, TX10, 54), rfl, by decide, WS_of (w := Cond.fieldLink RX10 23 (TX10 5).1 (TX10 5).2.1 (TX10 5).2.2.1) (List.mem_append_right _ (List.mem_append_right _ (List.mem_append_right _ (List.mem_append_right _ (List.mem_append_right _ (List.mem_append_left _ (List.mem_of_getElem? (i := 139) (by decide +kernel)))))))) (by decide +kernel)⟩
theorem kf_Md_28 : FL RX10 28 10 15 := ⟨(RX10, TX10, 54), rfl, by decide, WS_of (w := Cond.fieldLink RX10 28 (TX10 15).1 (TX10 15).2.1 (TX10 15).2.2.1) (List.mem_append_right _ (List.mem_append_right _ (List.mem_append_right _ (List.mem_append_right _ (List.mem_append_right _ (List.mem_append_left _ (List.mem_of_getElem? (i := 149) (by decide +kernel)))))))) (by decide +kernel)⟩
theorem kf_Md_34 : FL RX10 34 10 16 := ⟨(RX10, TX10, 54), rfl, by decide, WS_of (w := Cond.fieldLink RX10 34 (TX10 16).1 (TX10 16).2.1 (TX10 16).2.2.1) (List.mem_append_right _ (List.mem_append_right _ (List.mem_append_right _ (List.mem_append_right _ (List.mem_append_right _ (List.mem_append_left _ (List.mem_of_getElem? (i := 150) (by decide +kernel)))))))) (by decide +kernel)⟩
theorem kf_Md_37 : FL RX10 37 10 18 := ⟨(RX10, TX10, 54), rfl, by decide, WS_of (w := Cond.fieldLink RX10 37 (TX10 18).1 (TX10 18).2.1 (TX10 18).2.2.1) (List.mem_append_right _ (List.mem_append_right _ (List.mem_append_right _ (List.mem_append_right _ (List.mem_append_right _ (List.mem_append_left _ (List.mem_of_getElem? (i := 152) (by decide +kernel)))))))) (by decide +kernel)⟩
theorem kf_Md_40 : FL RX10 40 10 19 := ⟨(RX10, TX10, 54), rfl, by decide, WS_of (w := Cond.fieldLink RX10 40 (TX10 19).1 (TX10 19).2.1 (TX10 19).2.2.1) (List.mem_append_right _ (List.mem_append_right _ (List.mem_append_right _ (List.mem_append_right _ (List.mem_append_right _ (List.mem_append_left _ (List.mem_of_getElem? (i := 153) (by decide +kernel)))))))) (by decide +kernel)⟩
theorem kf_Md_43 : FL RX10 43 10 20 := ⟨(RX10, TX10, 54), rfl, by decide, WS_of (w := Cond.fieldLink RX10 43 (TX10 20).1 (TX10 20).2.1 (TX10 20).2.2.1) (List.mem_append_right _ (List.mem_append_right _ (List.mem_append_right _ (List.mem_append_right _ (List.mem_append_right _ (List.mem_append_left _ (List.mem_of_getElem? (i := 154) (by decide +kernel)))))))) (by decide +kernel)⟩
theorem kf_Md_46 : FL RX10 46 10 21 := ⟨(RX10, TX10, 54), rfl, by decide, WS_of (w := Cond.fieldLink RX10 46 (TX10 21).1 (TX10 21).2.1 (TX10 21).2.2.1) (List.mem_append_right _ (List.mem_append_right _ (List.mem_append_right _ (List.mem_append_right _ (List.mem_append_right _ (List.mem_append_left _ (List.mem_of_getElem? (i := 155) (by decide +kernel)))))))) (by decide +kernel)⟩
theorem kf_Md_49 : FL RX10 49 10 22 := ⟨(RX10, TX10, 54), rfl, by decide, WS_of (w := Cond.fieldLink RX10 49 (TX10 22).1 (TX10 22).2.1 (TX10 22).2.2.1) (List.mem_append_right _ (List.mem_append_right _ (List.mem_append_right _ (List.mem_append_right _ (List.mem_append_right _ (List.mem_append_left _ (List.mem_of_getElem? (i := 156) (by decide +kernel)))))))) (by decide +kernel)⟩
theorem kf_Md_52 : FL RX10 52 10 23 := ⟨(RX10, TX10, 54), rfl, by decide, WS_of (w := Cond.fieldLink RX10 52 (TX10 23).1 (TX10 23).2.1 (TX10 23).2.2.1) (List.mem_append_right _ (List.mem_append_right _ (List.mem_append_right _ (List.mem_append_right _ (List.mem_append_right _ (List.mem_append_left _ (List.mem_of_getElem? (i := 157) (by decide +kernel)))))))) (by decide +kernel)⟩
theorem kf_Md_55 : FL RX10 55 10 24 := ⟨(RX10, TX10, 54), rfl, by decide, WS_of (w := Cond.fieldLink RX10 55 (TX10 24).1 (TX10 24).2.1 (TX10 24).2.2.1) (List.mem_append_right _ (List.mem_append_right _ (List.mem_append_right _ (List.mem_append_right _ (List.mem_append_right _ (List.mem_append_left _ (List.mem_of_getElem? (i := 158) (by decide +kernel)))))))) (by decide +kernel)⟩
theorem kf_Md_58 : FL RX10 58 10 25 := ⟨(RX10, TX10, 54), rfl, by decide, WS_of (w := Cond.fieldLink RX10 58 (TX10 25).1 (TX10 25).2.1 (TX10 25).2.2.1) (List.mem_append_right _ (List.mem_append_right _ (List.mem_append_right _ (List.mem_append_right _ (List.mem_append_right _ (List.mem_append_left _ (List.mem_of_getElem? (i := 159) (by decide +kernel)))))))) (by decide +kernel)⟩
theorem kf_Md_61 : FL RX10 61 10 32 := ⟨(RX10, TX10, 54), rfl, by decide, WS_of (w := Cond.fieldLink RX10 61 (TX10 32).1 (TX10 32).2.1 (TX10 32).2.2.1) (List.mem_append_right _ (List.mem_append_right _ (List.mem_append_right _ (List.mem_append_right _ (List.mem_append_right _ (List.mem_append_left _ (List.mem_of_getElem? (i := 166) (by decide +kernel)))))))) (by decide +kernel)⟩
theorem kf_Md_64 : FL RX10 64 10 33 := ⟨(RX10, TX10, 54), rfl, by decide, WS_of (w := Cond.fieldLink RX10 64 (TX10 33).1 (TX10 33).2.1 (TX10 33).2.2.1) (List.mem_append_right _ (List.mem_append_right _ (List.mem_append_right _ (List.mem_append_right _ (List.mem_append_right _ (List.mem_append_left _ (List.mem_of_getElem? (i := 167) (by decide +kernel)))))))) (by decide +kernel)⟩
theorem kf_Md_67 : FL RX10 67 10 34 := ⟨(RX10, TX10, 54), rfl, by decide, WS_of (w := Cond.fieldLink RX10 67 (TX10 34).1 (TX10 34).2.1 (TX10 34).2.2.1) (List.mem_append_right _ (List.mem_append_right _ (List.mem_append_right _ (List.mem_append_right _ (List.mem_append_right _ (List.mem_append_left _ (List.mem_of_getElem? (i := 168) (by decide +kernel)))))))) (by decide +kernel)⟩
theorem kf_Md_71 : FL RX10 71 10 35 := ⟨(RX10, TX10, 54), rfl, by decide, WS_of (w := Cond.fieldLink RX10 71 (TX10 35).1 (TX10 35).2.1 (TX10 35).2.2.1) (List.mem_append_right _ (List.mem_append_right _ (List.mem_append_right _ (List.mem_append_right _ (List.mem_append_right _ (List.mem_append_left _ (List.mem_of_getElem? (i := 169) (by decide +kernel)))))))) (by decide +kernel)⟩
theorem kf_Md_74 : FL RX10 74 10 36 := ⟨(RX10, TX10, 54), rfl, by decide, WS_of (w := Cond.fieldLink RX10 74 (TX10 36).1 (TX10 36).2.1 (TX10 36).2.2.1) (List.mem_append_right _ (List.mem_append_right _ (List.mem_append_right _ (List.mem_append_right _ (List.mem_append_right _ (List.mem_append_left _ (List.mem_of_getElem? (i := 170) (by decide +kernel)))))))) (by decide +kernel)⟩
theorem kf_Md_78 : FL RX10 78 10 37 := ⟨(RX10, TX10, 54), rfl, by decide, WS_of (w := Cond.fieldLink RX10 78 (TX10 37).1 (TX10 37).2.1 (TX10 37).2.2.1) (List.mem_append_right _ (List.mem_append_right _ (List.mem_append_right _ (List.mem_append_right _ (List.mem_append_right _ (List.mem_append_left _ (List.mem_of_getElem? (i := 171) (by decide +kernel)))))))) (by decide +kernel)⟩
theorem kf_Md_81 : FL RX10 81 10 38 := ⟨(RX10, TX10, 54), rfl, by decide, WS_of (w := Cond.fieldLink RX10 81 (TX10 38).1 (TX10 38).2.1 (TX10 38).2.2.1) (List.mem_append_right _ (List.mem_append_right _ (List.mem_append_right _ (List.mem_append_right _ (List.mem_append_right _ (List.mem_append_left _ (List.mem_of_getElem? (i := 172) (by decide +kernel)))))))) (by decide +kernel)⟩
theorem kf_Md_84 : FL RX10 84 10 41 := ⟨(RX10, TX10, 54), rfl, by decide, WS_of (w := Cond.fieldLink RX10 84 (TX10 41).1 (TX10 41).2.1 (TX10 41).2.2.1) (List.mem_append_right _ (List.mem_append_right _ (List.mem_append_right _ (List.mem_append_right _ (List.mem_append_right _ (List.mem_append_left _ (List.mem_of_getElem? (i := 175) (by decide +kernel)))))))) (by decide +kernel)⟩
theorem kf_Md_87 : FL RX10 87 10 49 := ⟨(RX10, TX10, 54), rfl, by decide, WS_of (w := Cond.fieldLink RX10 87 (TX10 49).1 (TX10 49).2.1 (TX10 49).2.2.1) (List.mem_append_right _ (List.mem_append_right _ (List.mem_append_right _ (List.mem_append_right _ (List.mem_append_right _ (List.mem_append_left _ (List.mem_of_getElem? (i := 183) (by decide +kernel)))))))) (by decide +kernel)⟩
theorem kf_Md_90 : FL RX10 90 10 51 := ⟨(RX10, TX10, 54), rfl, by decide, WS_of (w := Cond.fieldLink RX10 90 (TX10 51).1 (TX10 51).2.1 (TX10 51).2.2.1) (List.mem_append_right _ (List.mem_append_right _ (List.mem_append_right _ (List.mem_append_right _ (List.mem_append_right _ (List.mem_append_left _ (List.mem_of_getElem? (i := 185) (by decide +kernel)))))))) (by decide +kernel)⟩
theorem kf_Md_93 : FL RX10 93 10 52 := ⟨(RX10, TX10, 54), rfl, by decide, WS_of (w := Cond.fieldLink RX10 93 (TX10 52).1 (TX10 52).2.1 (TX10 52).2.2.1) (List.mem_append_right _ (List.mem_append_right _ (List.mem_append_right _ (List.mem_append_right _ (List.mem_append_right _ (List.mem_append_left _ (List.mem_of_getElem? (i := 186) (by decide +kernel)))))))) (by decide +kernel)⟩
theorem dX10_init_0 : decode cX10_init 0 = .ok (.aload_n 0, 1) := by decide +kernel
theorem dX10_init_1 : decode cX10_init 1 = .ok (.invokespecial 3, 3) := by decide +kernel
theorem dX10_init_4 : decode cX10_init 4 = .ok (.aload_n 0, 1) := by decide +kernel
theorem dX10_init_5 : decode cX10_init 5 = .ok (.sipush 240, 3) := by decide +kernel
theorem dX10_init_8 : decode cX10_init 8 = .ok (.newarray .byte, 2) := by decide +kernel
theorem dX10_init_10 : decode cX10_init 10 = .ok (.putfield 9, 3) := by decide +kernel
theorem dX10_init_13 : decode cX10_init 13 = .ok (.aload_n 0, 1) := by decide +kernel
theorem dX10_init_14 : decode cX10_init 14 = .ok (.sipush 960, 3) := by decide +kernel
theorem dX10_init_17 : decode cX10_init 17 = .ok (.newarray .byte, 2) := by decide +kernel
theorem dX10_init_19 : decode cX10_init 19 = .ok (.putfield 13, 3) := by decide +kernel
theorem dX10_init_22 : decode cX10_init 22 = .ok (.aload_n 0, 1) := by decide +kernel
theorem dX10_init_23 : decode cX10_init 23 = .ok (.iconst 4, 1) := by decide +kernel
theorem dX10_init_24 : decode cX10_init 24 = .ok (.newarray .int, 2) := by decide +kernel
theorem dX10_init_26 : decode cX10_init 26 = .ok (.putfield 16, 3) := by decide +kernel
theorem dX10_init_29 : decode cX10_init 29 = .ok (.aload_n 0, 1) := by decide +kernel
theorem dX10_init_30 : decode cX10_init 30 = .ok (.sipush 128, 3) := by decide +kernel
theorem dX10_init_33 : decode cX10_init 33 = .ok (.newarray .int, 2) := by decide +kernel
theorem dX10_init_35 : decode cX10_init 35 = .ok (.putfield 20, 3) := by decide +kernel
theorem dX10_init_38 : decode cX10_init 38 = .ok (.aload_n 0, 1) := by decide +kernel
theorem dX10_init_39 : decode cX10_init 39 = .ok (.aload_n 0, 1) := by decide +kernel
theorem dX10_init_40 : decode cX10_init 40 = .ok (.getfield 9, 3) := by decide +kernel
theorem dX10_init_43 : decode cX10_init 43 = .ok (.putfield 23, 3) := by decide +kernel
theorem dX10_init_46 : decode cX10_init 46 = .ok (.aload_n 0, 1) := by decide +kernel
theorem dX10_init_47 : decode cX10_init 47 = .ok (.ldc 26, 2) := by decide +kernel
theorem dX10_init_49 : decode cX10_init 49 = .ok (.putfield 28, 3) := by decide +kernel
theorem dX10_init_52 : decode cX10_init 52 = .ok (.aload_n 0, 1) := by decide +kernel
theorem dX10_init_53 : decode cX10_init 53 = .ok (.ldc 32, 2) := by decide +kernel
theorem dX10_init_55 : decode cX10_init 55 = .ok (.putfield 34, 3) := by decide +kernel
theorem dX10_init_58 : decode cX10_init 58 = .ok (.aload_n 0, 1) := by decide +kernel
theorem dX10_init_59 : decode cX10_init 59 = .ok (.iconst 2, 1) := by decide +kernel
theorem dX10_init_60 : decode cX10_init 60 = .ok (.newarray .int, 2) := by decide +kernel
theorem dX10_init_62 : decode cX10_init 62 = .ok (.putfield 37, 3) := by decide +kernel
theorem dX10_init_65 : decode cX10_init 65 = .ok (.aload_n 0, 1) := by decide +kernel
theorem dX10_init_66 : decode cX10_init 66 = .ok (.iconst 2, 1) := by decide +kernel
theorem dX10_init_67 : decode cX10_init 67 = .ok (.newarray .int, 2) := by decide +kernel
theorem dX10_init_69 : decode cX10_init 69 = .ok (.putfield 40, 3) := by decide +kernel
theorem dX10_init_72 : decode cX10_init 72 = .ok (.aload_n 0, 1) := by decide +kernel
theorem dX10_init_73 : decode cX10_init 73 = .ok (.bipush 18, 2) := by decide +kernel
theorem dX10_init_75 : decode cX10_init 75 = .ok (.newarray .int, 2) := by decide +kernel
theorem dX10_init_77 : decode cX10_init 77 = .ok (.putfield 43, 3) := by decide +kernel
theorem dX10_init_80 : decode cX10_init 80 = .ok (.aload_n 0, 1) := by decide +kernel
theorem dX10_init_81 : decode cX10_init 81 = .ok (.bipush 18, 2) := by decide +kernel
theorem dX10_init_83 : decode cX10_init 83 = .ok (.newarray .int, 2) := by decide +kernel
theorem dX10_init_85 : decode cX10_init 85 = .ok (.putfield 46, 3) := by decide +kernel
theorem dX10_init_88 : decode cX10_init 88 = .ok (.aload_n 0, 1) := by decide +kernel
theorem dX10_init_89 : decode cX10_init 89 = .ok (.bipush 24, 2) := by decide +kernel
theorem dX10_init_91 : decode cX10_init 91 = .ok (.newarray .int, 2) := by decide +kernel
theorem dX10_init_93 : decode cX10_init 93 = .ok (.putfield 49, 3) := by decide +kernel
theorem dX10_init_96 : decode cX10_init 96 = .ok (.aload_n 0, 1) := by decide +kernel
theorem dX10_init_97 : decode cX10_init 97 = .ok (.bipush 24, 2) := by decide +kernel
theorem dX10_init_99 : decode cX10_init 99 = .ok (.newarray .int, 2) := by decide +kernel
theorem dX10_init_101 : decode cX10_init 101 = .ok (.putfield 52, 3) := by decide +kernel
theorem dX10_init_104 : decode cX10_init 104 = .ok (.aload_n 0, 1) := by decide +kernel
theorem dX10_init_105 : decode cX10_init 105 = .ok (.sipush 240, 3) := by decide +kernel
theorem dX10_init_108 : decode cX10_init 108 = .ok (.newarray .int, 2) := by decide +kernel
theorem dX10_init_110 : decode cX10_init 110 = .ok (.putfield 55, 3) := by decide +kernel
theorem dX10_init_113 : decode cX10_init 113 = .ok (.aload_n 0, 1) := by decide +kernel
theorem dX10_init_114 : decode cX10_init 114 = .ok (.iconst 5, 1) := by decide +kernel
theorem dX10_init_115 : decode cX10_init 115 = .ok (.newarray .int, 2) := by decide +kernel
theorem dX10_init_117 : decode cX10_init 117 = .ok (.putfield 58, 3) := by decide +kernel
theorem dX10_init_120 : decode cX10_init 120 = .ok (.aload_n 0, 1) := by decide +kernel
theorem dX10_init_121 : decode cX10_init 121 = .ok (.sipush 233, 3) := by decide +kernel
theorem dX10_init_124 : decode cX10_init 124 = .ok (.newarray .int, 2) := by decide +kernel
theorem dX10_init_126 : decode cX10_init 126 = .ok (.putfield 61, 3) := by decide +kernel
theorem dX10_init_129 : decode cX10_init 129 = .ok (.aload_n 0, 1) := by decide +kernel
theorem dX10_init_130 : decode cX10_init 130 = .ok (.sipush 233, 3) := by decide +kernel
theorem dX10_init_133 : decode cX10_init 133 = .ok (.newarray .int, 2) := by decide +kernel
theorem dX10_init_135 : decode cX10_init 135 = .ok (.putfield 64, 3) := by decide +kernel
theorem dX10_init_138 : decode cX10_init 138 = .ok (.aload_n 0, 1) := by decide +kernel
theorem dX10_init_139 : decode cX10_init 139 = .ok (.iconst (-1), 1) := by decide +kernel
theorem dX10_init_140 : decode cX10_init 140 = .ok (.putfield 67, 3) := by decide +kernel
theorem dX10_init_143 : decode cX10_init 143 = .ok (.aload_n 0, 1) := by decide +kernel
theorem dX10_init_144 : decode cX10_init 144 = .ok (.iconst 3, 1) := by decide +kernel
theorem dX10_init_145 : decode cX10_init 145 = .ok (.putfield 71, 3) := by decide +kernel
theorem dX10_init_148 : decode cX10_init 148 = .ok (.aload_n 0, 1) := by decide +kernel
theorem dX10_init_149 : decode cX10_init 149 = .ok (.sipush 8191, 3) := by decide +kernel
theorem dX10_init_152 : decode cX10_init 152 = .ok (.newarray .long, 2) := by decide +kernel
theorem dX10_init_154 : decode cX10_init 154 = .ok (.putfield 74, 3) := by decide +kernel
theorem dX10_init_157 : decode cX10_init 157 = .ok (.aload_n 0, 1) := by decide +kernel
theorem dX10_init_158 : decode cX10_init 158 = .ok (.sipush 8191, 3) := by decide +kernel
theorem dX10_init_161 : decode cX10_init 161 = .ok (.newarray .int, 2) := by decide +kernel
theorem dX10_init_163 : decode cX10_init 163 = .ok (.putfield 78, 3) := by decide +kernel
theorem dX10_init_166 : decode cX10_init 166 = .ok (.aload_n 0, 1) := by decide +kernel
theorem dX10_init_167 : decode cX10_init 167 = .ok (.bipush 6, 2) := by decide +kernel
theorem dX10_init_169 : decode cX10_init 169 = .ok (.newarray .int, 2) := by decide +kernel
theorem dX10_init_171 : decode cX10_init 171 = .ok (.putfield 81, 3) := by decide +kernel
theorem dX10_init_174 : decode cX10_init 174 = .ok (.aload_n 0, 1) := by decide +kernel
theorem dX10_init_175 : decode cX10_init 175 = .ok (.sipush 9320, 3) := by decide +kernel
theorem dX10_init_178 : decode cX10_init 178 = .ok (.newarray .int, 2) := by decide +kernel
theorem dX10_init_180 : decode cX10_init 180 = .ok (.putfield 84, 3) := by decide +kernel
theorem dX10_init_183 : decode cX10_init 183 = .ok (.aload_n 0, 1) := by decide +kernel
theorem dX10_init_184 : decode cX10_init 184 = .ok (.bipush 30, 2) := by decide +kernel
theorem dX10_init_186 : decode cX10_init 186 = .ok (.newarray .int, 2) := by decide +kernel
theorem dX10_init_188 : decode cX10_init 188 = .ok (.putfield 87, 3) := by decide +kernel
theorem dX10_init_191 : decode cX10_init 191 = .ok (.aload_n 0, 1) := by decide +kernel
theorem dX10_init_192 : decode cX10_init 192 = .ok (.sipush 371, 3) := by decide +kernel
theorem dX10_init_195 : decode cX10_init 195 = .ok (.newarray .int, 2) := by decide +kernel
theorem dX10_init_197 : decode cX10_init 197 = .ok (.putfield 90, 3) := by decide +kernel
theorem dX10_init_200 : decode cX10_init 200 = .ok (.aload_n 0, 1) := by decide +kernel
theorem dX10_init_201 : decode cX10_init 201 = .ok (.sipush 233, 3) := by decide +kernel
theorem dX10_init_204 : decode cX10_init 204 = .ok (.newarray .int, 2) := by decide +kernel
theorem dX10_init_206 : decode cX10_init 206 = .ok (.putfield 93, 3) := by decide +kernel
theorem dX10_init_209 : decode cX10_init 209 = .ok (.return_, 1) := by decide +kernel
def N_Md_init : Mt := (yX10_init, cX10_init, 1, none)
theorem mt_Md_init : MT N_Md_init 0 := ⟨WS_of (w := Cond.code yX10_init cX10_init 1 none) (List.mem_append_right _ (List.mem_append_right _ (List.mem_append_right _ (List.mem_append_right _ (List.mem_append_right _ (List.mem_append_left _ (List.mem_of_getElem? (i := 130) (by decide +kernel)))))))) (by decide +kernel), WS_of (w := Cond.initialized RX10) (List.mem_append_right _ (List.mem_append_left _ (List.mem_of_getElem? (i := 11) (by decide +kernel)))) (by decide +kernel), ⟨by decide, by decide, by decide +kernel⟩, by decide⟩
theorem st_Md_init : Cond.instanceMethod N_Md_init.1 ∈ WS ∧ N_Md_init.1.name = "<init>" := ⟨WS_of (w := Cond.instanceMethod yX10_init) (List.mem_append_right _ (List.mem_append_right _ (List.mem_append_right _ (List.mem_append_right _ (List.mem_append_right _ (List.mem_append_left _ (List.mem_of_getElem? (i := 129) (by decide +kernel)))))))) (by decide +kernel), rfl⟩
theorem rS_2001 : SH 2001 = (101, 240) := by decide +kernel
theorem rA_2001 : adA 309 = 2001 := by decide +kernel
theorem rS_2002 : SH 2002 = (101, 960) := by decide +kernel
theorem rA_2002 : adA 310 = 2002 := by decide +kernel
theorem rS_2003 : SH 2003 = (100, 4) := by decide +kernel
theorem rA_2003 : adA 311 = 2003 := by decide +kernel
theorem rS_2004 : SH 2004 = (100, 128) := by decide +kernel
theorem rA_2004 : adA 312 = 2004 := by decide +kernel
theorem rS_2018 : SH 2018 = (100, 2) := by decide +kernel
theorem rA_2018 : adA 313 = 2018 := by decide +kernel
theorem rS_2019 : SH 2019 = (100, 2) := by decide +kernel
theorem rA_2019 : adA 314 = 2019 := by decide +kernel
theorem rS_2020 : SH 2020 = (100, 18) := by decide +kernel
theorem rA_2020 : adA 315 = 2020 := by decide +kernel
theorem rS_2021 : SH 2021 = (100, 18) := by decide +kernel
theorem rA_2021 : adA 316 = 2021 := by decide +kernel
theorem rS_2022 : SH 2022 = (100, 24) := by decide +kernel
theorem rA_2022 : adA 317 = 2022 := by decide +kernel
theorem rS_2023 : SH 2023 = (100, 24) := by decide +kernel
theorem rA_2023 : adA 318 = 2023 := by decide +kernel
theorem rS_2024 : SH 2024 = (100, 240) := by decide +kernel
theorem rA_2024 : adA 319 = 2024 := by decide +kernel
theorem rS_2025 : SH 2025 = (100, 5) := by decide +kernel
theorem rA_2025 : adA 320 = 2025 := by decide +kernel
theorem rS_2032 : SH 2032 = (100, 233) := by decide +kernel
theorem rA_2032 : adA 321 = 2032 := by decide +kernel
theorem rS_2033 : SH 2033 = (100, 233) := by decide +kernel
theorem rA_2033 : adA 322 = 2033 := by decide +kernel
theorem rS_2036 : SH 2036 = (102, 8191) := by decide +kernel
theorem rA_2036 : adA 323 = 2036 := by decide +kernel
theorem rS_2037 : SH 2037 = (100, 8191) := by decide +kernel
theorem rA_2037 : adA 324 = 2037 := by decide +kernel
theorem rS_2038 : SH 2038 = (100, 6) := by decide +kernel
theorem rA_2038 : adA 325 = 2038 := by decide +kernel
theorem rS_2041 : SH 2041 = (100, 9320) := by decide +kernel
theorem rA_2041 : adA 326 = 2041 := by decide +kernel
theorem rS_2049 : SH 2049 = (100, 30) := by decide +kernel
theorem rA_2049 : adA 327 = 2049 := by decide +kernel
theorem rS_2051 : SH 2051 = (100, 371) := by decide +kernel
theorem rA_2051 : adA 328 = 2051 := by decide +kernel
theorem rS_2052 : SH 2052 = (100, 233) := by decide +kernel
theorem rA_2052 : adA 329 = 2052 := by decide +kernel
theorem rO (n : Nat) (h : 308 < n) : (sN n 2000).1 = 10 := by rw [sN_is 2000 (by rw [show orA 2000 = 308 from by decide +kernel]; exact h) (by decide +kernel)]; decide +kernel
set_option maxHeartbeats 2000000 in
set_option maxRecDepth 100000 in
theorem R4_Md {ω : Wd} {h : Hp} (hω : OKw ω) (hz : ∀ b : Int, 2000 < b → ∀ j, h b j = 0) : Ev ω N_Md_init 1 (PQm ω (QK ω 330 328 (up (up (up h 2000 5 2001) 2000 34 (-1)) 2000 35 (3))) 21 28473) 21 28473 18 27839 (sN 327) (pN 325) (zz ω 327) (up (up (up h 2000 5 2001) 2000 34 (-1)) 2000 35 (3)) 183 [some (aV ω 2000)] [] := by
  refine ev_aload_n (pc := 183) (i := 0) dX10_init_183 rfl rfl ?_
  refine ev_bipush (pc := 184) dX10_init_184 (by decide) ?_
  refine ev_newarr (pc := 186) (n := 327) (sl := 27839) (atype := .int) (a := 2049) hω (by decide) rA_2049 dX10_init_186 wa_int (by rw [rS_2049]; rfl) (by rw [rS_2049]; decide) (by rw [rS_2049]; rfl) (by rw [rS_2049]; decide) (by decide) (by rw [rS_2049]; decide) (fun j => (up_ne (by decide) j).trans ((up_ne (by decide) j).trans ((up_ne (by decide) j).trans (hz _ (by decide) j)))) ?_
  rw [rS_2049]
  refine ev_putF (pc := 188) (t := 325) (c9 := 10) (k9 := 49) (a := 2000) (b := 2049) (by decide +kernel) (by decide +kernel) dX10_init_188 kf_Md_87 (by decide) (rO 328 (by decide)) (by decide) (fun q hq => by cases hq; exact ⟨rfl, rfl⟩) rfl rfl rfl ?_
  refine ev_aload_n (pc := 191) (i := 0) dX10_init_191 rfl rfl ?_
  refine ev_sipush (pc := 192) dX10_init_192 (by decide) ?_
  refine ev_newarr (pc := 195) (n := 328) (sl := 27869) (atype := .int) (a := 2051) hω (by decide) rA_2051 dX10_init_195 wa_int (by rw [rS_2051]; rfl) (by rw [rS_2051]; decide) (by rw [rS_2051]; rfl) (by rw [rS_2051]; decide) (by decide) (by rw [rS_2051]; decide) (fun j => (up_ne (by decide) j).trans ((up_ne (by decide) j).trans ((up_ne (by decide) j).trans (hz _ (by decide) j)))) ?_
  rw [rS_2051]
  refine ev_putF (pc := 197) (t := 326) (c9 := 10) (k9 := 51) (a := 2000) (b := 2051) (by decide +kernel) (by decide +kernel) dX10_init_197 kf_Md_90 (by decide) (rO 329 (by decide)) (by decide) (fun q hq => by cases hq; exact ⟨rfl, rfl⟩) rfl rfl rfl ?_
  refine ev_aload_n (pc := 200) (i := 0) dX10_init_200 rfl rfl ?_
  refine ev_sipush (pc := 201) dX10_init_201 (by decide) ?_
  refine ev_newarr (pc := 204) (n := 329) (sl := 28240) (atype := .int) (a := 2052) hω (by decide) rA_2052 dX10_init_204 wa_int (by rw [rS_2052]; rfl) (by rw [rS_2052]; decide) (by rw [rS_2052]; rfl) (by rw [rS_2052]; decide) (by decide) (by rw [rS_2052]; decide) (fun j => (up_ne (by decide) j).trans ((up_ne (by decide) j).trans ((up_ne (by decide) j).trans (hz _ (by decide) j)))) ?_
  rw [rS_2052]
  refine ev_putF (pc := 206) (t := 327) (c9 := 10) (k9 := 52) (a := 2000) (b := 2052) (by decide +kernel) (by decide +kernel) dX10_init_206 kf_Md_93 (by decide) (rO 330 (by decide)) (by decide) (fun q hq => by cases hq; exact ⟨rfl, rfl⟩) rfl rfl rfl ?_
  exact ev_vret (pc := 209) dX10_init_209 rfl (by decide) (by decide) ⟨rfl, rfl, rfl, rfl, rfl⟩
set_option maxHeartbeats 2000000 in
set_option maxRecDepth 100000 in
theorem R3_Md {ω : Wd} {h : Hp} (hω : OKw ω) (hz : ∀ b : Int, 2000 < b → ∀ j, h b j = 0) : Ev ω N_Md_init 1 (PQm ω (QK ω 330 328 (up (up (up h 2000 5 2001) 2000 34 (-1)) 2000 35 (3))) 21 28473) 21 28473 14 2131 (sN 323) (pN 321) (zz ω 323) (up h 2000 5 2001) 138 [some (aV ω 2000)] [] := by
  refine ev_aload_n (pc := 138) (i := 0) dX10_init_138 rfl rfl ?_
  refine ev_iconst (pc := 139) dX10_init_139 ?_
  refine ev_putI (pc := 140) (c9 := 10) (k9 := 34) (x := (-1)) dX10_init_140 kf_Md_67 (by decide) (rO 323 (by decide)) (by decide) (fun q hq => by cases hq; rfl) rfl rfl ?_
  refine ev_aload_n (pc := 143) (i := 0) dX10_init_143 rfl rfl ?_
  refine ev_iconst (pc := 144) dX10_init_144 ?_
  refine ev_putI (pc := 145) (c9 := 10) (k9 := 35) (x := (3)) dX10_init_145 kf_Md_71 (by decide) (rO 323 (by decide)) (by decide) (fun q hq => by cases hq; rfl) rfl rfl ?_
  refine ev_aload_n (pc := 148) (i := 0) dX10_init_148 rfl rfl ?_
  refine ev_sipush (pc := 149) dX10_init_149 (by decide) ?_
  refine ev_newarr (pc := 152) (n := 323) (sl := 2131) (atype := .long) (a := 2036) hω (by decide) rA_2036 dX10_init_152 wa_long (by rw [rS_2036]; rfl) (by rw [rS_2036]; decide) (by rw [rS_2036]; rfl) (by rw [rS_2036]; decide) (by decide) (by rw [rS_2036]; decide) (fun j => (up_ne (by decide) j).trans ((up_ne (by decide) j).trans ((up_ne (by decide) j).trans (hz _ (by decide) j)))) ?_
  rw [rS_2036]
  refine ev_putF (pc := 154) (t := 321) (c9 := 10) (k9 := 36) (a := 2000) (b := 2036) (by decide +kernel) (by decide +kernel) dX10_init_154 kf_Md_74 (by decide) (rO 324 (by decide)) (by decide) (fun q hq => by cases hq; exact ⟨rfl, rfl⟩) rfl rfl rfl ?_
  refine ev_aload_n (pc := 157) (i := 0) dX10_init_157 rfl rfl ?_
  refine ev_sipush (pc := 158) dX10_init_158 (by decide) ?_
  refine ev_newarr (pc := 161) (n := 324) (sl := 10322) (atype := .int) (a := 2037) hω (by decide) rA_2037 dX10_init_161 wa_int (by rw [rS_2037]; rfl) (by rw [rS_2037]; decide) (by rw [rS_2037]; rfl) (by rw [rS_2037]; decide) (by decide) (by rw [rS_2037]; decide) (fun j => (up_ne (by decide) j).trans ((up_ne (by decide) j).trans ((up_ne (by decide) j).trans (hz _ (by decide) j)))) ?_
  rw [rS_2037]
  refine ev_putF (pc := 163) (t := 322) (c9 := 10) (k9 := 37) (a := 2000) (b := 2037) (by decide +kernel) (by decide +kernel) dX10_init_163 kf_Md_78 (by decide) (rO 325 (by decide)) (by decide) (fun q hq => by cases hq; exact ⟨rfl, rfl⟩) rfl rfl rfl ?_
  refine ev_aload_n (pc := 166) (i := 0) dX10_init_166 rfl rfl ?_
  refine ev_bipush (pc := 167) dX10_init_167 (by decide) ?_
  refine ev_newarr (pc := 169) (n := 325) (sl := 18513) (atype := .int) (a := 2038) hω (by decide) rA_2038 dX10_init_169 wa_int (by rw [rS_2038]; rfl) (by rw [rS_2038]; decide) (by rw [rS_2038]; rfl) (by rw [rS_2038]; decide) (by decide) (by rw [rS_2038]; decide) (fun j => (up_ne (by decide) j).trans ((up_ne (by decide) j).trans ((up_ne (by decide) j).trans (hz _ (by decide) j)))) ?_
  rw [rS_2038]
  refine ev_putF (pc := 171) (t := 323) (c9 := 10) (k9 := 38) (a := 2000) (b := 2038) (by decide +kernel) (by decide +kernel) dX10_init_171 kf_Md_81 (by decide) (rO 326 (by decide)) (by decide) (fun q hq => by cases hq; exact ⟨rfl, rfl⟩) rfl rfl rfl ?_
  refine ev_aload_n (pc := 174) (i := 0) dX10_init_174 rfl rfl ?_
  refine ev_sipush (pc := 175) dX10_init_175 (by decide) ?_
  refine ev_newarr (pc := 178) (n := 326) (sl := 18519) (atype := .int) (a := 2041) hω (by decide) rA_2041 dX10_init_178 wa_int (by rw [rS_2041]; rfl) (by rw [rS_2041]; decide) (by rw [rS_2041]; rfl) (by rw [rS_2041]; decide) (by decide) (by rw [rS_2041]; decide) (fun j => (up_ne (by decide) j).trans ((up_ne (by decide) j).trans ((up_ne (by decide) j).trans (hz _ (by decide) j)))) ?_
  rw [rS_2041]
  refine ev_putF (pc := 180) (t := 324) (c9 := 10) (k9 := 41) (a := 2000) (b := 2041) (by decide +kernel) (by decide +kernel) dX10_init_180 kf_Md_84 (by decide) (rO 327 (by decide)) (by decide) (fun q hq => by cases hq; exact ⟨rfl, rfl⟩) rfl rfl rfl ?_
  exact R4_Md hω hz
set_option maxHeartbeats 2000000 in
set_option maxRecDepth 100000 in
theorem R2_Md {ω : Wd} {h : Hp} (hω : OKw ω) (hz : ∀ b : Int, 2000 < b → ∀ j, h b j = 0) : Ev ω N_Md_init 1 (PQm ω (QK ω 330 328 (up (up (up h 2000 5 2001) 2000 34 (-1)) 2000 35 (3))) 21 28473) 21 28473 8 1372 (sN 317) (pN 315) (zz ω 317) (up h 2000 5 2001) 88 [some (aV ω 2000)] [] := by
  refine ev_aload_n (pc := 88) (i := 0) dX10_init_88 rfl rfl ?_
  refine ev_bipush (pc := 89) dX10_init_89 (by decide) ?_
  refine ev_newarr (pc := 91) (n := 317) (sl := 1372) (atype := .int) (a := 2022) hω (by decide) rA_2022 dX10_init_91 wa_int (by rw [rS_2022]; rfl) (by rw [rS_2022]; decide) (by rw [rS_2022]; rfl) (by rw [rS_2022]; decide) (by decide) (by rw [rS_2022]; decide) (fun j => (up_ne (by decide) j).trans (hz _ (by decide) j)) ?_
  rw [rS_2022]
  refine ev_putF (pc := 93) (t := 315) (c9 := 10) (k9 := 22) (a := 2000) (b := 2022) (by decide +kernel) (by decide +kernel) dX10_init_93 kf_Md_49 (by decide) (rO 318 (by decide)) (by decide) (fun q hq => by cases hq; exact ⟨rfl, rfl⟩) rfl rfl rfl ?_
  refine ev_aload_n (pc := 96) (i := 0) dX10_init_96 rfl rfl ?_
  refine ev_bipush (pc := 97) dX10_init_97 (by decide) ?_
  refine ev_newarr (pc := 99) (n := 318) (sl := 1396) (atype := .int) (a := 2023) hω (by decide) rA_2023 dX10_init_99 wa_int (by rw [rS_2023]; rfl) (by rw [rS_2023]; decide) (by rw [rS_2023]; rfl) (by rw [rS_2023]; decide) (by decide) (by rw [rS_2023]; decide) (fun j => (up_ne (by decide) j).trans (hz _ (by decide) j)) ?_
  rw [rS_2023]
  refine ev_putF (pc := 101) (t := 316) (c9 := 10) (k9 := 23) (a := 2000) (b := 2023) (by decide +kernel) (by decide +kernel) dX10_init_101 kf_Md_52 (by decide) (rO 319 (by decide)) (by decide) (fun q hq => by cases hq; exact ⟨rfl, rfl⟩) rfl rfl rfl ?_
  refine ev_aload_n (pc := 104) (i := 0) dX10_init_104 rfl rfl ?_
  refine ev_sipush (pc := 105) dX10_init_105 (by decide) ?_
  refine ev_newarr (pc := 108) (n := 319) (sl := 1420) (atype := .int) (a := 2024) hω (by decide) rA_2024 dX10_init_108 wa_int (by rw [rS_2024]; rfl) (by rw [rS_2024]; decide) (by rw [rS_2024]; rfl) (by rw [rS_2024]; decide) (by decide) (by rw [rS_2024]; decide) (fun j => (up_ne (by decide) j).trans (hz _ (by decide) j)) ?_
  rw [rS_2024]
  refine ev_putF (pc := 110) (t := 317) (c9 := 10) (k9 := 24) (a := 2000) (b := 2024) (by decide +kernel) (by decide +kernel) dX10_init_110 kf_Md_55 (by decide) (rO 320 (by decide)) (by decide) (fun q hq => by cases hq; exact ⟨rfl, rfl⟩) rfl rfl rfl ?_
  refine ev_aload_n (pc := 113) (i := 0) dX10_init_113 rfl rfl ?_
  refine ev_iconst (pc := 114) dX10_init_114 ?_
  refine ev_newarr (pc := 115) (n := 320) (sl := 1660) (atype := .int) (a := 2025) hω (by decide) rA_2025 dX10_init_115 wa_int (by rw [rS_2025]; rfl) (by rw [rS_2025]; decide) (by rw [rS_2025]; rfl) (by rw [rS_2025]; decide) (by decide) (by rw [rS_2025]; decide) (fun j => (up_ne (by decide) j).trans (hz _ (by decide) j)) ?_
  rw [rS_2025]
  refine ev_putF (pc := 117) (t := 318) (c9 := 10) (k9 := 25) (a := 2000) (b := 2025) (by decide +kernel) (by decide +kernel) dX10_init_117 kf_Md_58 (by decide) (rO 321 (by decide)) (by decide) (fun q hq => by cases hq; exact ⟨rfl, rfl⟩) rfl rfl rfl ?_
  refine ev_aload_n (pc := 120) (i := 0) dX10_init_120 rfl rfl ?_
  refine ev_sipush (pc := 121) dX10_init_121 (by decide) ?_
  refine ev_newarr (pc := 124) (n := 321) (sl := 1665) (atype := .int) (a := 2032) hω (by decide) rA_2032 dX10_init_124 wa_int (by rw [rS_2032]; rfl) (by rw [rS_2032]; decide) (by rw [rS_2032]; rfl) (by rw [rS_2032]; decide) (by decide) (by rw [rS_2032]; decide) (fun j => (up_ne (by decide) j).trans (hz _ (by decide) j)) ?_
  rw [rS_2032]
  refine ev_putF (pc := 126) (t := 319) (c9 := 10) (k9 := 32) (a := 2000) (b := 2032) (by decide +kernel) (by decide +kernel) dX10_init_126 kf_Md_61 (by decide) (rO 322 (by decide)) (by decide) (fun q hq => by cases hq; exact ⟨rfl, rfl⟩) rfl rfl rfl ?_
  refine ev_aload_n (pc := 129) (i := 0) dX10_init_129 rfl rfl ?_
  refine ev_sipush (pc := 130) dX10_init_130 (by decide) ?_
  refine ev_newarr (pc := 133) (n := 322) (sl := 1898) (atype := .int) (a := 2033) hω (by decide) rA_2033 dX10_init_133 wa_int (by rw [rS_2033]; rfl) (by rw [rS_2033]; decide) (by rw [rS_2033]; rfl) (by rw [rS_2033]; decide) (by decide) (by rw [rS_2033]; decide) (fun j => (up_ne (by decide) j).trans (hz _ (by decide) j)) ?_
  rw [rS_2033]
  refine ev_putF (pc := 135) (t := 320) (c9 := 10) (k9 := 33) (a := 2000) (b := 2033) (by decide +kernel) (by decide +kernel) dX10_init_135 kf_Md_64 (by decide) (rO 323 (by decide)) (by decide) (fun q hq => by cases hq; exact ⟨rfl, rfl⟩) rfl rfl rfl ?_
  exact R3_Md hω hz
set_option maxHeartbeats 2000000 in
set_option maxRecDepth 100000 in
theorem R1_Md {ω : Wd} {h : Hp} (hω : OKw ω) (hz : ∀ b : Int, 2000 < b → ∀ j, h b j = 0) : Ev ω N_Md_init 1 (PQm ω (QK ω 330 328 (up (up (up h 2000 5 2001) 2000 34 (-1)) 2000 35 (3))) 21 28473) 21 28473 4 1332 (sN 313) (pN 309) (zz ω 313) (up h 2000 5 2001) 46 [some (aV ω 2000)] [] := by
  refine ev_aload_n (pc := 46) (i := 0) dX10_init_46 rfl rfl ?_
  refine ev_ldcS (pc := 47) (n := 1) (by decide) rfl rfl dX10_init_47 ?_
  refine ev_putF (pc := 49) (t := 309) (c9 := 10) (k9 := 15) (a := 2000) (b := 11) (by decide +kernel) (by decide +kernel) dX10_init_49 kf_Md_28 (by decide) (rO 313 (by decide)) (by decide) (fun q hq => by cases hq; exact ⟨rfl, rfl⟩) rfl rfl rfl ?_
  refine ev_aload_n (pc := 52) (i := 0) dX10_init_52 rfl rfl ?_
  refine ev_ldcS (pc := 53) (n := 2) (by decide) rfl rfl dX10_init_53 ?_
  refine ev_putF (pc := 55) (t := 310) (c9 := 10) (k9 := 16) (a := 2000) (b := 12) (by decide +kernel) (by decide +kernel) dX10_init_55 kf_Md_34 (by decide) (rO 313 (by decide)) (by decide) (fun q hq => by cases hq; exact ⟨rfl, rfl⟩) rfl rfl rfl ?_
  refine ev_aload_n (pc := 58) (i := 0) dX10_init_58 rfl rfl ?_
  refine ev_iconst (pc := 59) dX10_init_59 ?_
  refine ev_newarr (pc := 60) (n := 313) (sl := 1332) (atype := .int) (a := 2018) hω (by decide) rA_2018 dX10_init_60 wa_int (by rw [rS_2018]; rfl) (by rw [rS_2018]; decide) (by rw [rS_2018]; rfl) (by rw [rS_2018]; decide) (by decide) (by rw [rS_2018]; decide) (fun j => (up_ne (by decide) j).trans (hz _ (by decide) j)) ?_
  rw [rS_2018]
  refine ev_putF (pc := 62) (t := 311) (c9 := 10) (k9 := 18) (a := 2000) (b := 2018) (by decide +kernel) (by decide +kernel) dX10_init_62 kf_Md_37 (by decide) (rO 314 (by decide)) (by decide) (fun q hq => by cases hq; exact ⟨rfl, rfl⟩) rfl rfl rfl ?_
  refine ev_aload_n (pc := 65) (i := 0) dX10_init_65 rfl rfl ?_
  refine ev_iconst (pc := 66) dX10_init_66 ?_
  refine ev_newarr (pc := 67) (n := 314) (sl := 1334) (atype := .int) (a := 2019) hω (by decide) rA_2019 dX10_init_67 wa_int (by rw [rS_2019]; rfl) (by rw [rS_2019]; decide) (by rw [rS_2019]; rfl) (by rw [rS_2019]; decide) (by decide) (by rw [rS_2019]; decide) (fun j => (up_ne (by decide) j).trans (hz _ (by decide) j)) ?_
  rw [rS_2019]
  refine ev_putF (pc := 69) (t := 312) (c9 := 10) (k9 := 19) (a := 2000) (b := 2019) (by decide +kernel) (by decide +kernel) dX10_init_69 kf_Md_40 (by decide) (rO 315 (by decide)) (by decide) (fun q hq => by cases hq; exact ⟨rfl, rfl⟩) rfl rfl rfl ?_
  refine ev_aload_n (pc := 72) (i := 0) dX10_init_72 rfl rfl ?_
  refine ev_bipush (pc := 73) dX10_init_73 (by decide) ?_
  refine ev_newarr (pc := 75) (n := 315) (sl := 1336) (atype := .int) (a := 2020) hω (by decide) rA_2020 dX10_init_75 wa_int (by rw [rS_2020]; rfl) (by rw [rS_2020]; decide) (by rw [rS_2020]; rfl) (by rw [rS_2020]; decide) (by decide) (by rw [rS_2020]; decide) (fun j => (up_ne (by decide) j).trans (hz _ (by decide) j)) ?_
  rw [rS_2020]
  refine ev_putF (pc := 77) (t := 313) (c9 := 10) (k9 := 20) (a := 2000) (b := 2020) (by decide +kernel) (by decide +kernel) dX10_init_77 kf_Md_43 (by decide) (rO 316 (by decide)) (by decide) (fun q hq => by cases hq; exact ⟨rfl, rfl⟩) rfl rfl rfl ?_
  refine ev_aload_n (pc := 80) (i := 0) dX10_init_80 rfl rfl ?_
  refine ev_bipush (pc := 81) dX10_init_81 (by decide) ?_
  refine ev_newarr (pc := 83) (n := 316) (sl := 1354) (atype := .int) (a := 2021) hω (by decide) rA_2021 dX10_init_83 wa_int (by rw [rS_2021]; rfl) (by rw [rS_2021]; decide) (by rw [rS_2021]; rfl) (by rw [rS_2021]; decide) (by decide) (by rw [rS_2021]; decide) (fun j => (up_ne (by decide) j).trans (hz _ (by decide) j)) ?_
  rw [rS_2021]
  refine ev_putF (pc := 85) (t := 314) (c9 := 10) (k9 := 21) (a := 2000) (b := 2021) (by decide +kernel) (by decide +kernel) dX10_init_85 kf_Md_46 (by decide) (rO 317 (by decide)) (by decide) (fun q hq => by cases hq; exact ⟨rfl, rfl⟩) rfl rfl rfl ?_
  exact R2_Md hω hz
set_option maxHeartbeats 2000000 in
set_option maxRecDepth 100000 in
theorem R0_Md {ω : Wd} {h : Hp} (hω : OKw ω) (hz : ∀ b : Int, 2000 < b → ∀ j, h b j = 0) : Ev ω N_Md_init 1 (PQm ω (QK ω 330 328 (up (up (up h 2000 5 2001) 2000 34 (-1)) 2000 35 (3))) 21 28473) 21 28473 0 0 (sN 309) (pN 305) (zz ω 309) h 0 [some (aV ω 2000)] [] := by
  refine ev_aload_n (pc := 0) (i := 0) dX10_init_0 rfl rfl ?_
  refine ev_objInit (pc := 1) dX10_init_1 wo_Md wo_i wo_c (by decide) (by decide) (by decide) ?_
  refine ev_aload_n (pc := 4) (i := 0) dX10_init_4 rfl rfl ?_
  refine ev_sipush (pc := 5) dX10_init_5 (by decide) ?_
  refine ev_newarr (pc := 8) (n := 309) (sl := 0) (atype := .byte) (a := 2001) hω (by decide) rA_2001 dX10_init_8 wa_byte (by rw [rS_2001]; rfl) (by rw [rS_2001]; decide) (by rw [rS_2001]; rfl) (by rw [rS_2001]; decide) (by decide) (by rw [rS_2001]; decide) (fun j => hz _ (by decide) j) ?_
  rw [rS_2001]
  refine ev_putF (pc := 10) (t := 305) (c9 := 10) (k9 := 1) (a := 2000) (b := 2001) (by decide +kernel) (by decide +kernel) dX10_init_10 kf_Md_9 (by decide) (rO 310 (by decide)) (by decide) (fun q hq => by cases hq; exact ⟨rfl, rfl⟩) rfl rfl rfl ?_
  refine ev_aload_n (pc := 13) (i := 0) dX10_init_13 rfl rfl ?_
  refine ev_sipush (pc := 14) dX10_init_14 (by decide) ?_
  refine ev_newarr (pc := 17) (n := 310) (sl := 240) (atype := .byte) (a := 2002) hω (by decide) rA_2002 dX10_init_17 wa_byte (by rw [rS_2002]; rfl) (by rw [rS_2002]; decide) (by rw [rS_2002]; rfl) (by rw [rS_2002]; decide) (by decide) (by rw [rS_2002]; decide) (fun j => hz _ (by decide) j) ?_
  rw [rS_2002]
  refine ev_putF (pc := 19) (t := 306) (c9 := 10) (k9 := 2) (a := 2000) (b := 2002) (by decide +kernel) (by decide +kernel) dX10_init_19 kf_Md_13 (by decide) (rO 311 (by decide)) (by decide) (fun q hq => by cases hq; exact ⟨rfl, rfl⟩) rfl rfl rfl ?_
  refine ev_aload_n (pc := 22) (i := 0) dX10_init_22 rfl rfl ?_
  refine ev_iconst (pc := 23) dX10_init_23 ?_
  refine ev_newarr (pc := 24) (n := 311) (sl := 1200) (atype := .int) (a := 2003) hω (by decide) rA_2003 dX10_init_24 wa_int (by rw [rS_2003]; rfl) (by rw [rS_2003]; decide) (by rw [rS_2003]; rfl) (by rw [rS_2003]; decide) (by decide) (by rw [rS_2003]; decide) (fun j => hz _ (by decide) j) ?_
  rw [rS_2003]
  refine ev_putF (pc := 26) (t := 307) (c9 := 10) (k9 := 3) (a := 2000) (b := 2003) (by decide +kernel) (by decide +kernel) dX10_init_26 kf_Md_16 (by decide) (rO 312 (by decide)) (by decide) (fun q hq => by cases hq; exact ⟨rfl, rfl⟩) rfl rfl rfl ?_
  refine ev_aload_n (pc := 29) (i := 0) dX10_init_29 rfl rfl ?_
  refine ev_sipush (pc := 30) dX10_init_30 (by decide) ?_
  refine ev_newarr (pc := 33) (n := 312) (sl := 1204) (atype := .int) (a := 2004) hω (by decide) rA_2004 dX10_init_33 wa_int (by rw [rS_2004]; rfl) (by rw [rS_2004]; decide) (by rw [rS_2004]; rfl) (by rw [rS_2004]; decide) (by decide) (by rw [rS_2004]; decide) (fun j => hz _ (by decide) j) ?_
  rw [rS_2004]
  refine ev_putF (pc := 35) (t := 308) (c9 := 10) (k9 := 4) (a := 2000) (b := 2004) (by decide +kernel) (by decide +kernel) dX10_init_35 kf_Md_20 (by decide) (rO 313 (by decide)) (by decide) (fun q hq => by cases hq; exact ⟨rfl, rfl⟩) rfl rfl rfl ?_
  refine ev_aload_n (pc := 38) (i := 0) dX10_init_38 rfl rfl ?_
  refine ev_aload_n (pc := 39) (i := 0) dX10_init_39 rfl rfl ?_
  refine ev_get (pc := 40) (c9 := 10) (k9 := 1) (v := aV ω 2001) dX10_init_40 kf_Md_9 (by decide) (rO 313 (by decide)) (show aV ω (pN 309 2000 1) = _ from by rw [pN_is 2000 1 (by decide +kernel) (by decide +kernel)]; rfl) ?_
  refine ev_putA (pc := 43) (c9 := 10) (k9 := 5) (x := 2001) dX10_init_43 kf_Md_23 (by decide) (rO 313 (by decide)) (by decide) (fun q hq => by cases hq; rfl) rfl rfl ?_
  exact R1_Md hω hz
theorem K_Md {ω : Wd} {h : Hp} (hω : OKw ω) (hz : ∀ b : Int, 2000 < b → ∀ j, h b j = 0) : Ct ω N_Md_init 1 [aV ω 2000] (sN 309) (pN 305) (zz ω 309) h 21 28473 (QK ω 330 328 (up (up (up h 2000 5 2001) 2000 34 (-1)) 2000 35 (3))) :=
  Ct_of (lv := [some (aV ω 2000)]) (by decide) (Nat.le_trans (sl_1 (cat_aV _ _) sl_z) (Nat.le_of_ble_eq_true rfl)) (la_1 (cat_aV _ _) la_z) (R0_Md hω hz)
end MadeR
