theorem dX10_goMatch_0 : decode cX10_goMatch 0 = .ok (.iload_n 1, 1) := by decide +kernel
theorem dX10_goMatch_1 : decode cX10_goMatch 1 = .ok (.istore_n 3, 1) := by decide +kernel
theorem dX10_goMatch_2 : decode cX10_goMatch 2 = .ok (.iload_n 3, 1) := by decide +kernel
theorem dX10_goMatch_3 : decode cX10_goMatch 3 = .ok (.aload_n 0, 1) := by decide +kernel
theorem dX10_goMatch_4 : decode cX10_goMatch 4 = .ok (.getfield 294, 3) := by decide +kernel
theorem dX10_goMatch_7 : decode cX10_goMatch 7 = .ok (.if_icmp .ge 19, 3) := by decide +kernel
theorem dX10_goMatch_10 : decode cX10_goMatch 10 = .ok (.aload_n 0, 1) := by decide +kernel
theorem dX10_goMatch_11 : decode cX10_goMatch 11 = .ok (.getfield 81, 3) := by decide +kernel
theorem dX10_goMatch_14 : decode cX10_goMatch 14 = .ok (.iload_n 3, 1) := by decide +kernel
theorem dX10_goMatch_15 : decode cX10_goMatch 15 = .ok (.iaload, 1) := by decide +kernel
theorem dX10_goMatch_16 : decode cX10_goMatch 16 = .ok (.iconst (-1), 1) := by decide +kernel
theorem dX10_goMatch_17 : decode cX10_goMatch 17 = .ok (.if_icmp .eq 9, 3) := by decide +kernel
theorem dX10_goMatch_20 : decode cX10_goMatch 20 = .ok (.iinc 3 1, 3) := by decide +kernel
theorem dX10_goMatch_23 : decode cX10_goMatch 23 = .ok (.goto (-21), 3) := by decide +kernel
theorem dX10_goMatch_26 : decode cX10_goMatch 26 = .ok (.iload_n 3, 1) := by decide +kernel
theorem dX10_goMatch_27 : decode cX10_goMatch 27 = .ok (.aload_n 0, 1) := by decide +kernel
theorem dX10_goMatch_28 : decode cX10_goMatch 28 = .ok (.getfield 294, 3) := by decide +kernel
theorem dX10_goMatch_31 : decode cX10_goMatch 31 = .ok (.if_icmp .ne 64, 3) := by decide +kernel
theorem dX10_goMatch_34 : decode cX10_goMatch 34 = .ok (.aload_n 0, 1) := by decide +kernel
theorem dX10_goMatch_35 : decode cX10_goMatch 35 = .ok (.getfield 447, 3) := by decide +kernel
theorem dX10_goMatch_38 : decode cX10_goMatch 38 = .ok (.iconst (-1), 1) := by decide +kernel
theorem dX10_goMatch_39 : decode cX10_goMatch 39 = .ok (.if_icmp .eq 12, 3) := by decide +kernel
theorem dX10_goMatch_42 : decode cX10_goMatch 42 = .ok (.iload_n 2, 1) := by decide +kernel
theorem dX10_goMatch_43 : decode cX10_goMatch 43 = .ok (.aload_n 0, 1) := by decide +kernel
theorem dX10_goMatch_44 : decode cX10_goMatch 44 = .ok (.getfield 450, 3) := by decide +kernel
theorem dX10_goMatch_47 : decode cX10_goMatch 47 = .ok (.if_icmp .ge 4, 3) := by decide +kernel
theorem dX10_goMatch_50 : decode cX10_goMatch 50 = .ok (.return_, 1) := by decide +kernel
theorem dX10_goMatch_51 : decode cX10_goMatch 51 = .ok (.aload_n 0, 1) := by decide +kernel
theorem dX10_goMatch_52 : decode cX10_goMatch 52 = .ok (.invokevirtual 439, 3) := by decide +kernel
theorem dX10_goMatch_55 : decode cX10_goMatch 55 = .ok (.istore 4, 2) := by decide +kernel
theorem dX10_goMatch_57 : decode cX10_goMatch 57 = .ok (.aload_n 0, 1) := by decide +kernel
theorem dX10_goMatch_58 : decode cX10_goMatch 58 = .ok (.getfield 447, 3) := by decide +kernel
theorem dX10_goMatch_61 : decode cX10_goMatch 61 = .ok (.iconst (-1), 1) := by decide +kernel
theorem dX10_goMatch_62 : decode cX10_goMatch 62 = .ok (.if_icmp .eq 21, 3) := by decide +kernel
theorem dX10_goMatch_65 : decode cX10_goMatch 65 = .ok (.iload_n 2, 1) := by decide +kernel
theorem dX10_goMatch_66 : decode cX10_goMatch 66 = .ok (.aload_n 0, 1) := by decide +kernel
theorem dX10_goMatch_67 : decode cX10_goMatch 67 = .ok (.getfield 450, 3) := by decide +kernel
theorem dX10_goMatch_70 : decode cX10_goMatch 70 = .ok (.if_icmp .ne 13, 3) := by decide +kernel
theorem dX10_goMatch_73 : decode cX10_goMatch 73 = .ok (.iload 4, 2) := by decide +kernel
theorem dX10_goMatch_75 : decode cX10_goMatch 75 = .ok (.aload_n 0, 1) := by decide +kernel
theorem dX10_goMatch_76 : decode cX10_goMatch 76 = .ok (.getfield 447, 3) := by decide +kernel
theorem dX10_goMatch_79 : decode cX10_goMatch 79 = .ok (.if_icmp .lt 4, 3) := by decide +kernel
theorem dX10_goMatch_82 : decode cX10_goMatch 82 = .ok (.return_, 1) := by decide +kernel
theorem dX10_goMatch_83 : decode cX10_goMatch 83 = .ok (.aload_n 0, 1) := by decide +kernel
theorem dX10_goMatch_84 : decode cX10_goMatch 84 = .ok (.iload 4, 2) := by decide +kernel
theorem dX10_goMatch_86 : decode cX10_goMatch 86 = .ok (.putfield 447, 3) := by decide +kernel
theorem dX10_goMatch_89 : decode cX10_goMatch 89 = .ok (.aload_n 0, 1) := by decide +kernel
theorem dX10_goMatch_90 : decode cX10_goMatch 90 = .ok (.iload_n 2, 1) := by decide +kernel
theorem dX10_goMatch_91 : decode cX10_goMatch 91 = .ok (.putfield 450, 3) := by decide +kernel
theorem dX10_goMatch_94 : decode cX10_goMatch 94 = .ok (.return_, 1) := by decide +kernel
theorem dX10_goMatch_95 : decode cX10_goMatch 95 = .ok (.iload_n 3, 1) := by decide +kernel
theorem dX10_goMatch_96 : decode cX10_goMatch 96 = .ok (.iconst 1, 1) := by decide +kernel
theorem dX10_goMatch_97 : decode cX10_goMatch 97 = .ok (.iadd, 1) := by decide +kernel
theorem dX10_goMatch_98 : decode cX10_goMatch 98 = .ok (.istore 4, 2) := by decide +kernel
theorem dX10_goMatch_100 : decode cX10_goMatch 100 = .ok (.iload 4, 2) := by decide +kernel
theorem dX10_goMatch_102 : decode cX10_goMatch 102 = .ok (.aload_n 0, 1) := by decide +kernel
theorem dX10_goMatch_103 : decode cX10_goMatch 103 = .ok (.getfield 294, 3) := by decide +kernel
theorem dX10_goMatch_106 : decode cX10_goMatch 106 = .ok (.if_icmp .ge 87, 3) := by decide +kernel
theorem dX10_goMatch_109 : decode cX10_goMatch 109 = .ok (.aload_n 0, 1) := by decide +kernel
theorem dX10_goMatch_110 : decode cX10_goMatch 110 = .ok (.getfield 81, 3) := by decide +kernel
theorem dX10_goMatch_113 : decode cX10_goMatch 113 = .ok (.iload 4, 2) := by decide +kernel
theorem dX10_goMatch_115 : decode cX10_goMatch 115 = .ok (.iaload, 1) := by decide +kernel
theorem dX10_goMatch_116 : decode cX10_goMatch 116 = .ok (.iconst (-1), 1) := by decide +kernel
theorem dX10_goMatch_117 : decode cX10_goMatch 117 = .ok (.if_icmp .ne 70, 3) := by decide +kernel
theorem dX10_goMatch_120 : decode cX10_goMatch 120 = .ok (.aload_n 0, 1) := by decide +kernel
theorem dX10_goMatch_121 : decode cX10_goMatch 121 = .ok (.getfield 61, 3) := by decide +kernel
theorem dX10_goMatch_124 : decode cX10_goMatch 124 = .ok (.iload_n 3, 1) := by decide +kernel
theorem dX10_goMatch_125 : decode cX10_goMatch 125 = .ok (.iload 4, 2) := by decide +kernel
theorem dX10_goMatch_127 : decode cX10_goMatch 127 = .ok (.invokestatic 312, 3) := by decide +kernel
theorem dX10_goMatch_130 : decode cX10_goMatch 130 = .ok (.ifCond .ne 6, 3) := by decide +kernel
theorem dX10_goMatch_133 : decode cX10_goMatch 133 = .ok (.goto 54, 3) := by decide +kernel
theorem dX10_goMatch_136 : decode cX10_goMatch 136 = .ok (.aload_n 0, 1) := by decide +kernel
theorem dX10_goMatch_137 : decode cX10_goMatch 137 = .ok (.getfield 81, 3) := by decide +kernel
theorem dX10_goMatch_140 : decode cX10_goMatch 140 = .ok (.iload_n 3, 1) := by decide +kernel
theorem dX10_goMatch_141 : decode cX10_goMatch 141 = .ok (.iload 4, 2) := by decide +kernel
theorem dX10_goMatch_143 : decode cX10_goMatch 143 = .ok (.iastore, 1) := by decide +kernel
theorem dX10_goMatch_144 : decode cX10_goMatch 144 = .ok (.aload_n 0, 1) := by decide +kernel
theorem dX10_goMatch_145 : decode cX10_goMatch 145 = .ok (.getfield 81, 3) := by decide +kernel
theorem dX10_goMatch_148 : decode cX10_goMatch 148 = .ok (.iload 4, 2) := by decide +kernel
theorem dX10_goMatch_150 : decode cX10_goMatch 150 = .ok (.iload_n 3, 1) := by decide +kernel
theorem dX10_goMatch_151 : decode cX10_goMatch 151 = .ok (.iastore, 1) := by decide +kernel
theorem dX10_goMatch_152 : decode cX10_goMatch 152 = .ok (.aload_n 0, 1) := by decide +kernel
theorem dX10_goMatch_153 : decode cX10_goMatch 153 = .ok (.iload_n 3, 1) := by decide +kernel
theorem dX10_goMatch_154 : decode cX10_goMatch 154 = .ok (.iconst 1, 1) := by decide +kernel
theorem dX10_goMatch_155 : decode cX10_goMatch 155 = .ok (.iadd, 1) := by decide +kernel
theorem dX10_goMatch_156 : decode cX10_goMatch 156 = .ok (.iload_n 2, 1) := by decide +kernel
theorem dX10_goMatch_157 : decode cX10_goMatch 157 = .ok (.aload_n 0, 1) := by decide +kernel
theorem dX10_goMatch_158 : decode cX10_goMatch 158 = .ok (.getfield 61, 3) := by decide +kernel
theorem dX10_goMatch_161 : decode cX10_goMatch 161 = .ok (.iload_n 3, 1) := by decide +kernel
theorem dX10_goMatch_162 : decode cX10_goMatch 162 = .ok (.invokestatic 334, 3) := by decide +kernel
theorem dX10_goMatch_165 : decode cX10_goMatch 165 = .ok (.iadd, 1) := by decide +kernel
theorem dX10_goMatch_166 : decode cX10_goMatch 166 = .ok (.aload_n 0, 1) := by decide +kernel
theorem dX10_goMatch_167 : decode cX10_goMatch 167 = .ok (.getfield 61, 3) := by decide +kernel
theorem dX10_goMatch_170 : decode cX10_goMatch 170 = .ok (.iload 4, 2) := by decide +kernel
theorem dX10_goMatch_172 : decode cX10_goMatch 172 = .ok (.invokestatic 334, 3) := by decide +kernel
theorem dX10_goMatch_175 : decode cX10_goMatch 175 = .ok (.iadd, 1) := by decide +kernel
theorem dX10_goMatch_176 : decode cX10_goMatch 176 = .ok (.invokevirtual 453, 3) := by decide +kernel
theorem dX10_goMatch_179 : decode cX10_goMatch 179 = .ok (.aload_n 0, 1) := by decide +kernel
theorem dX10_goMatch_180 : decode cX10_goMatch 180 = .ok (.getfield 81, 3) := by decide +kernel
theorem dX10_goMatch_183 : decode cX10_goMatch 183 = .ok (.iload 4, 2) := by decide +kernel
theorem dX10_goMatch_185 : decode cX10_goMatch 185 = .ok (.iconst (-1), 1) := by decide +kernel
theorem dX10_goMatch_186 : decode cX10_goMatch 186 = .ok (.iastore, 1) := by decide +kernel
theorem dX10_goMatch_187 : decode cX10_goMatch 187 = .ok (.iinc 4 1, 3) := by decide +kernel
theorem dX10_goMatch_190 : decode cX10_goMatch 190 = .ok (.goto (-90), 3) := by decide +kernel
theorem dX10_goMatch_193 : decode cX10_goMatch 193 = .ok (.aload_n 0, 1) := by decide +kernel
theorem dX10_goMatch_194 : decode cX10_goMatch 194 = .ok (.getfield 81, 3) := by decide +kernel
theorem dX10_goMatch_197 : decode cX10_goMatch 197 = .ok (.iload_n 3, 1) := by decide +kernel
theorem dX10_goMatch_198 : decode cX10_goMatch 198 = .ok (.bipush 9, 2) := by decide +kernel
theorem dX10_goMatch_200 : decode cX10_goMatch 200 = .ok (.iastore, 1) := by decide +kernel
theorem dX10_goMatch_201 : decode cX10_goMatch 201 = .ok (.aload_n 0, 1) := by decide +kernel
theorem dX10_goMatch_202 : decode cX10_goMatch 202 = .ok (.iload_n 3, 1) := by decide +kernel
theorem dX10_goMatch_203 : decode cX10_goMatch 203 = .ok (.iconst 1, 1) := by decide +kernel
theorem dX10_goMatch_204 : decode cX10_goMatch 204 = .ok (.iadd, 1) := by decide +kernel
theorem dX10_goMatch_205 : decode cX10_goMatch 205 = .ok (.iload_n 2, 1) := by decide +kernel
theorem dX10_goMatch_206 : decode cX10_goMatch 206 = .ok (.invokevirtual 453, 3) := by decide +kernel
theorem dX10_goMatch_209 : decode cX10_goMatch 209 = .ok (.aload_n 0, 1) := by decide +kernel
theorem dX10_goMatch_210 : decode cX10_goMatch 210 = .ok (.getfield 81, 3) := by decide +kernel
theorem dX10_goMatch_213 : decode cX10_goMatch 213 = .ok (.iload_n 3, 1) := by decide +kernel
theorem dX10_goMatch_214 : decode cX10_goMatch 214 = .ok (.iconst (-1), 1) := by decide +kernel
theorem dX10_goMatch_215 : decode cX10_goMatch 215 = .ok (.iastore, 1) := by decide +kernel
theorem dX10_goMatch_216 : decode cX10_goMatch 216 = .ok (.return_, 1) := by decide +kernel
theorem dX10_pardons_0 : decode cX10_pardons 0 = .ok (.aload_n 0, 1) := by decide +kernel
theorem dX10_pardons_1 : decode cX10_pardons 1 = .ok (.bipush 49, 2) := by decide +kernel
theorem dX10_pardons_3 : decode cX10_pardons 3 = .ok (.dup2, 1) := by decide +kernel
theorem dX10_pardons_4 : decode cX10_pardons 4 = .ok (.iaload, 1) := by decide +kernel
theorem dX10_pardons_5 : decode cX10_pardons 5 = .ok (.iconst 4, 1) := by decide +kernel
theorem dX10_pardons_6 : decode cX10_pardons 6 = .ok (.isub, 1) := by decide +kernel
theorem dX10_pardons_7 : decode cX10_pardons 7 = .ok (.iastore, 1) := by decide +kernel
theorem dX10_pardons_8 : decode cX10_pardons 8 = .ok (.aload_n 0, 1) := by decide +kernel
theorem dX10_pardons_9 : decode cX10_pardons 9 = .ok (.iload_n 1, 1) := by decide +kernel
theorem dX10_pardons_10 : decode cX10_pardons 10 = .ok (.iload_n 2, 1) := by decide +kernel
theorem dX10_pardons_11 : decode cX10_pardons 11 = .ok (.iconst 0, 1) := by decide +kernel
theorem dX10_pardons_12 : decode cX10_pardons 12 = .ok (.invokestatic 318, 3) := by decide +kernel
theorem dX10_pardons_15 : decode cX10_pardons 15 = .ok (.return_, 1) := by decide +kernel
theorem dX10_sentences_0 : decode cX10_sentences 0 = .ok (.aload_n 0, 1) := by decide +kernel
theorem dX10_sentences_1 : decode cX10_sentences 1 = .ok (.getfield 49, 3) := by decide +kernel
theorem dX10_sentences_4 : decode cX10_sentences 4 = .ok (.iconst 3, 1) := by decide +kernel
theorem dX10_sentences_5 : decode cX10_sentences 5 = .ok (.iload_n 2, 1) := by decide +kernel
theorem dX10_sentences_6 : decode cX10_sentences 6 = .ok (.imul, 1) := by decide +kernel
theorem dX10_sentences_7 : decode cX10_sentences 7 = .ok (.iaload, 1) := by decide +kernel
theorem dX10_sentences_8 : decode cX10_sentences 8 = .ok (.istore_n 3, 1) := by decide +kernel
theorem dX10_sentences_9 : decode cX10_sentences 9 = .ok (.aload_n 0, 1) := by decide +kernel
theorem dX10_sentences_10 : decode cX10_sentences 10 = .ok (.getfield 49, 3) := by decide +kernel
theorem dX10_sentences_13 : decode cX10_sentences 13 = .ok (.iconst 3, 1) := by decide +kernel
theorem dX10_sentences_14 : decode cX10_sentences 14 = .ok (.iload_n 2, 1) := by decide +kernel
theorem dX10_sentences_15 : decode cX10_sentences 15 = .ok (.imul, 1) := by decide +kernel
theorem dX10_sentences_16 : decode cX10_sentences 16 = .ok (.iconst 1, 1) := by decide +kernel
theorem dX10_sentences_17 : decode cX10_sentences 17 = .ok (.iadd, 1) := by decide +kernel
theorem dX10_sentences_18 : decode cX10_sentences 18 = .ok (.iaload, 1) := by decide +kernel
theorem dX10_sentences_19 : decode cX10_sentences 19 = .ok (.istore 4, 2) := by decide +kernel
theorem dX10_sentences_21 : decode cX10_sentences 21 = .ok (.aload_n 1, 1) := by decide +kernel
theorem dX10_sentences_22 : decode cX10_sentences 22 = .ok (.iload_n 3, 1) := by decide +kernel
theorem dX10_sentences_23 : decode cX10_sentences 23 = .ok (.iload 4, 2) := by decide +kernel
theorem dX10_sentences_25 : decode cX10_sentences 25 = .ok (.aload_n 0, 1) := by decide +kernel
theorem dX10_sentences_26 : decode cX10_sentences 26 = .ok (.aload_n 1, 1) := by decide +kernel
theorem dX10_sentences_27 : decode cX10_sentences 27 = .ok (.iload_n 3, 1) := by decide +kernel
theorem dX10_sentences_28 : decode cX10_sentences 28 = .ok (.iload 4, 2) := by decide +kernel
theorem dX10_sentences_30 : decode cX10_sentences 30 = .ok (.aload_n 0, 1) := by decide +kernel
theorem dX10_sentences_31 : decode cX10_sentences 31 = .ok (.getfield 49, 3) := by decide +kernel
theorem dX10_sentences_34 : decode cX10_sentences 34 = .ok (.iconst 3, 1) := by decide +kernel
theorem dX10_sentences_35 : decode cX10_sentences 35 = .ok (.iload_n 2, 1) := by decide +kernel
theorem dX10_sentences_36 : decode cX10_sentences 36 = .ok (.imul, 1) := by decide +kernel
theorem dX10_sentences_37 : decode cX10_sentences 37 = .ok (.iconst 2, 1) := by decide +kernel
theorem dX10_sentences_38 : decode cX10_sentences 38 = .ok (.iadd, 1) := by decide +kernel
theorem dX10_sentences_39 : decode cX10_sentences 39 = .ok (.iaload, 1) := by decide +kernel
theorem dX10_sentences_40 : decode cX10_sentences 40 = .ok (.invokevirtual 374, 3) := by decide +kernel
theorem dX10_sentences_43 : decode cX10_sentences 43 = .ok (.invokestatic 347, 3) := by decide +kernel
theorem dX10_sentences_46 : decode cX10_sentences 46 = .ok (.aload_n 1, 1) := by decide +kernel
theorem dX10_sentences_47 : decode cX10_sentences 47 = .ok (.bipush 48, 2) := by decide +kernel
theorem dX10_sentences_49 : decode cX10_sentences 49 = .ok (.dup2, 1) := by decide +kernel
theorem dX10_sentences_50 : decode cX10_sentences 50 = .ok (.iaload, 1) := by decide +kernel
theorem dX10_sentences_51 : decode cX10_sentences 51 = .ok (.iconst 1, 1) := by decide +kernel
theorem dX10_sentences_52 : decode cX10_sentences 52 = .ok (.iload_n 2, 1) := by decide +kernel
theorem dX10_sentences_53 : decode cX10_sentences 53 = .ok (.ishl, 1) := by decide +kernel
theorem dX10_sentences_54 : decode cX10_sentences 54 = .ok (.ior, 1) := by decide +kernel
theorem dX10_sentences_55 : decode cX10_sentences 55 = .ok (.iastore, 1) := by decide +kernel
theorem dX10_sentences_56 : decode cX10_sentences 56 = .ok (.return_, 1) := by decide +kernel
theorem dX10_goStep_0 : decode cX10_goStep 0 = .ok (.aload_n 0, 1) := by decide +kernel
theorem dX10_goStep_1 : decode cX10_goStep 1 = .ok (.getfield 55, 3) := by decide +kernel
theorem dX10_goStep_4 : decode cX10_goStep 4 = .ok (.iload_n 2, 1) := by decide +kernel
theorem dX10_goStep_5 : decode cX10_goStep 5 = .ok (.iconst 1, 1) := by decide +kernel
theorem dX10_goStep_6 : decode cX10_goStep 6 = .ok (.iadd, 1) := by decide +kernel
theorem dX10_goStep_7 : decode cX10_goStep 7 = .ok (.iaload, 1) := by decide +kernel
theorem dX10_goStep_8 : decode cX10_goStep 8 = .ok (.istore_n 3, 1) := by decide +kernel
theorem dX10_goStep_9 : decode cX10_goStep 9 = .ok (.aload_n 0, 1) := by decide +kernel
theorem dX10_goStep_10 : decode cX10_goStep 10 = .ok (.getfield 55, 3) := by decide +kernel
theorem dX10_goStep_13 : decode cX10_goStep 13 = .ok (.iload_n 2, 1) := by decide +kernel
theorem dX10_goStep_14 : decode cX10_goStep 14 = .ok (.iaload, 1) := by decide +kernel
theorem dX10_goStep_15 : decode cX10_goStep 15 = .ok (.tableswitch 61 0 2 #[25, 34, 45], 25) := by decide +kernel
theorem dX10_goStep_40 : decode cX10_goStep 40 = .ok (.aload_n 0, 1) := by decide +kernel
theorem dX10_goStep_41 : decode cX10_goStep 41 = .ok (.aload_n 1, 1) := by decide +kernel
theorem dX10_goStep_42 : decode cX10_goStep 42 = .ok (.iload_n 3, 1) := by decide +kernel
theorem dX10_goStep_43 : decode cX10_goStep 43 = .ok (.invokevirtual 387, 3) := by decide +kernel
theorem dX10_goStep_46 : decode cX10_goStep 46 = .ok (.goto 43, 3) := by decide +kernel
theorem dX10_goStep_49 : decode cX10_goStep 49 = .ok (.aload_n 0, 1) := by decide +kernel
theorem dX10_goStep_50 : decode cX10_goStep 50 = .ok (.aload_n 1, 1) := by decide +kernel
theorem dX10_goStep_51 : decode cX10_goStep 51 = .ok (.iconst 0, 1) := by decide +kernel
theorem dX10_goStep_52 : decode cX10_goStep 52 = .ok (.invokevirtual 390, 3) := by decide +kernel
theorem dX10_goStep_55 : decode cX10_goStep 55 = .ok (.istore 4, 2) := by decide +kernel
theorem dX10_goStep_57 : decode cX10_goStep 57 = .ok (.goto 32, 3) := by decide +kernel
theorem dX10_goStep_60 : decode cX10_goStep 60 = .ok (.aload_n 1, 1) := by decide +kernel
theorem dX10_goStep_61 : decode cX10_goStep 61 = .ok (.iload_n 3, 1) := by decide +kernel
theorem dX10_goStep_62 : decode cX10_goStep 62 = .ok (.aload_n 0, 1) := by decide +kernel
theorem dX10_goStep_63 : decode cX10_goStep 63 = .ok (.getfield 55, 3) := by decide +kernel
theorem dX10_goStep_66 : decode cX10_goStep 66 = .ok (.iload_n 2, 1) := by decide +kernel
theorem dX10_goStep_67 : decode cX10_goStep 67 = .ok (.iconst 2, 1) := by decide +kernel
theorem dX10_goStep_68 : decode cX10_goStep 68 = .ok (.iadd, 1) := by decide +kernel
theorem dX10_goStep_69 : decode cX10_goStep 69 = .ok (.iaload, 1) := by decide +kernel
theorem dX10_goStep_70 : decode cX10_goStep 70 = .ok (.invokestatic 400, 3) := by decide +kernel
theorem dX10_goStep_73 : decode cX10_goStep 73 = .ok (.goto 16, 3) := by decide +kernel
theorem dX10_goStep_76 : decode cX10_goStep 76 = .ok (.aload_n 1, 1) := by decide +kernel
theorem dX10_goStep_77 : decode cX10_goStep 77 = .ok (.iload_n 3, 1) := by decide +kernel
theorem dX10_goStep_78 : decode cX10_goStep 78 = .ok (.aload_n 0, 1) := by decide +kernel
theorem dX10_goStep_79 : decode cX10_goStep 79 = .ok (.getfield 55, 3) := by decide +kernel
theorem dX10_goStep_82 : decode cX10_goStep 82 = .ok (.iload_n 2, 1) := by decide +kernel
theorem dX10_goStep_83 : decode cX10_goStep 83 = .ok (.iconst 2, 1) := by decide +kernel
theorem dX10_goStep_84 : decode cX10_goStep 84 = .ok (.iadd, 1) := by decide +kernel
theorem dX10_goStep_85 : decode cX10_goStep 85 = .ok (.iaload, 1) := by decide +kernel
theorem dX10_goStep_86 : decode cX10_goStep 86 = .ok (.invokestatic 407, 3) := by decide +kernel
theorem dX10_goStep_89 : decode cX10_goStep 89 = .ok (.return_, 1) := by decide +kernel
theorem dX10_graves_0 : decode cX10_graves 0 = .ok (.aload_n 0, 1) := by decide +kernel
theorem dX10_graves_1 : decode cX10_graves 1 = .ok (.iconst 0, 1) := by decide +kernel
theorem dX10_graves_2 : decode cX10_graves 2 = .ok (.putfield 96, 3) := by decide +kernel
theorem dX10_graves_5 : decode cX10_graves 5 = .ok (.aload_n 0, 1) := by decide +kernel
theorem dX10_graves_6 : decode cX10_graves 6 = .ok (.iload_n 1, 1) := by decide +kernel
theorem dX10_graves_7 : decode cX10_graves 7 = .ok (.invokevirtual 369, 3) := by decide +kernel
theorem dX10_graves_10 : decode cX10_graves 10 = .ok (.ifCond .eq 8, 3) := by decide +kernel
theorem dX10_graves_13 : decode cX10_graves 13 = .ok (.iload_n 2, 1) := by decide +kernel
theorem dX10_graves_14 : decode cX10_graves 14 = .ok (.iconst (-1), 1) := by decide +kernel
theorem dX10_graves_15 : decode cX10_graves 15 = .ok (.if_icmp .ge 5, 3) := by decide +kernel
theorem dX10_graves_18 : decode cX10_graves 18 = .ok (.iconst (-1), 1) := by decide +kernel
theorem dX10_graves_19 : decode cX10_graves 19 = .ok (.ireturn, 1) := by decide +kernel
theorem dX10_graves_20 : decode cX10_graves 20 = .ok (.iconst 0, 1) := by decide +kernel
theorem dX10_graves_21 : decode cX10_graves 21 = .ok (.istore_n 3, 1) := by decide +kernel
theorem dX10_graves_22 : decode cX10_graves 22 = .ok (.iconst 1, 1) := by decide +kernel
theorem dX10_graves_23 : decode cX10_graves 23 = .ok (.istore 4, 2) := by decide +kernel
theorem dX10_graves_25 : decode cX10_graves 25 = .ok (.iload 4, 2) := by decide +kernel
theorem dX10_graves_27 : decode cX10_graves 27 = .ok (.bipush 9, 2) := by decide +kernel
theorem dX10_graves_29 : decode cX10_graves 29 = .ok (.if_icmp .gt 33, 3) := by decide +kernel
theorem dX10_graves_32 : decode cX10_graves 32 = .ok (.aload_n 0, 1) := by decide +kernel
theorem dX10_graves_33 : decode cX10_graves 33 = .ok (.iload_n 1, 1) := by decide +kernel
theorem dX10_graves_34 : decode cX10_graves 34 = .ok (.iload 4, 2) := by decide +kernel
theorem dX10_graves_36 : decode cX10_graves 36 = .ok (.invokevirtual 481, 3) := by decide +kernel
theorem dX10_graves_39 : decode cX10_graves 39 = .ok (.ifCond .ne 6, 3) := by decide +kernel
theorem dX10_graves_42 : decode cX10_graves 42 = .ok (.goto 14, 3) := by decide +kernel
theorem dX10_graves_45 : decode cX10_graves 45 = .ok (.iload_n 3, 1) := by decide +kernel
theorem dX10_graves_46 : decode cX10_graves 46 = .ok (.iload_n 2, 1) := by decide +kernel
theorem dX10_graves_47 : decode cX10_graves 47 = .ok (.if_icmp .ne 6, 3) := by decide +kernel
theorem dX10_graves_50 : decode cX10_graves 50 = .ok (.iload 4, 2) := by decide +kernel
theorem dX10_graves_52 : decode cX10_graves 52 = .ok (.ireturn, 1) := by decide +kernel
theorem dX10_graves_53 : decode cX10_graves 53 = .ok (.iinc 3 1, 3) := by decide +kernel
theorem dX10_graves_56 : decode cX10_graves 56 = .ok (.iinc 4 1, 3) := by decide +kernel
theorem dX10_graves_59 : decode cX10_graves 59 = .ok (.goto (-34), 3) := by decide +kernel
theorem dX10_graves_62 : decode cX10_graves 62 = .ok (.iload_n 2, 1) := by decide +kernel
theorem dX10_graves_63 : decode cX10_graves 63 = .ok (.iconst (-1), 1) := by decide +kernel
theorem dX10_graves_64 : decode cX10_graves 64 = .ok (.if_icmp .ne 7, 3) := by decide +kernel
theorem dX10_graves_67 : decode cX10_graves 67 = .ok (.iload_n 3, 1) := by decide +kernel
theorem dX10_graves_68 : decode cX10_graves 68 = .ok (.goto 4, 3) := by decide +kernel
theorem dX10_graves_71 : decode cX10_graves 71 = .ok (.iconst (-1), 1) := by decide +kernel
theorem dX10_graves_72 : decode cX10_graves 72 = .ok (.ireturn, 1) := by decide +kernel
theorem dX10_image_0 : decode cX10_image 0 = .ok (.aload_n 0, 1) := by decide +kernel
theorem dX10_image_1 : decode cX10_image 1 = .ok (.iconst 0, 1) := by decide +kernel
theorem dX10_image_2 : decode cX10_image 2 = .ok (.putfield 96, 3) := by decide +kernel
theorem dX10_image_5 : decode cX10_image 5 = .ok (.aload_n 0, 1) := by decide +kernel
theorem dX10_image_6 : decode cX10_image 6 = .ok (.getfield 294, 3) := by decide +kernel
theorem dX10_image_9 : decode cX10_image 9 = .ok (.ifCond .ne 5, 3) := by decide +kernel
theorem dX10_image_12 : decode cX10_image 12 = .ok (.iconst (-1), 1) := by decide +kernel
theorem dX10_image_13 : decode cX10_image 13 = .ok (.ireturn, 1) := by decide +kernel
theorem dX10_image_14 : decode cX10_image 14 = .ok (.iconst 0, 1) := by decide +kernel
theorem dX10_image_15 : decode cX10_image 15 = .ok (.istore_n 1, 1) := by decide +kernel
theorem dX10_image_16 : decode cX10_image 16 = .ok (.iload_n 1, 1) := by decide +kernel
theorem dX10_image_17 : decode cX10_image 17 = .ok (.sipush 233, 3) := by decide +kernel
theorem dX10_image_20 : decode cX10_image 20 = .ok (.if_icmp .ge 21, 3) := by decide +kernel
theorem dX10_image_23 : decode cX10_image 23 = .ok (.aload_n 0, 1) := by decide +kernel
theorem dX10_image_24 : decode cX10_image 24 = .ok (.getfield 93, 3) := by decide +kernel
theorem dX10_image_27 : decode cX10_image 27 = .ok (.iload_n 1, 1) := by decide +kernel
theorem dX10_image_28 : decode cX10_image 28 = .ok (.aload_n 0, 1) := by decide +kernel
theorem dX10_image_29 : decode cX10_image 29 = .ok (.getfield 61, 3) := by decide +kernel
theorem dX10_image_32 : decode cX10_image 32 = .ok (.iload_n 1, 1) := by decide +kernel
theorem dX10_image_33 : decode cX10_image 33 = .ok (.iaload, 1) := by decide +kernel
theorem dX10_image_34 : decode cX10_image 34 = .ok (.iastore, 1) := by decide +kernel
theorem dX10_image_35 : decode cX10_image 35 = .ok (.iinc 1 1, 3) := by decide +kernel
theorem dX10_image_38 : decode cX10_image 38 = .ok (.goto (-22), 3) := by decide +kernel
theorem dX10_image_41 : decode cX10_image 41 = .ok (.aload_n 0, 1) := by decide +kernel
theorem dX10_image_42 : decode cX10_image 42 = .ok (.iconst 1, 1) := by decide +kernel
theorem dX10_image_43 : decode cX10_image 43 = .ok (.putfield 306, 3) := by decide +kernel
theorem dX10_image_46 : decode cX10_image 46 = .ok (.aload_n 0, 1) := by decide +kernel
theorem dX10_image_47 : decode cX10_image 47 = .ok (.getfield 61, 3) := by decide +kernel
theorem dX10_image_50 : decode cX10_image 50 = .ok (.bipush 51, 2) := by decide +kernel
theorem dX10_image_52 : decode cX10_image 52 = .ok (.iaload, 1) := by decide +kernel
theorem dX10_image_53 : decode cX10_image 53 = .ok (.ireturn, 1) := by decide +kernel
theorem dX10_isPlan_0 : decode cX10_isPlan 0 = .ok (.iload_n 1, 1) := by decide +kernel
theorem dX10_isPlan_1 : decode cX10_isPlan 1 = .ok (.ifCond .lt 15, 3) := by decide +kernel
theorem dX10_isPlan_4 : decode cX10_isPlan 4 = .ok (.iload_n 1, 1) := by decide +kernel
theorem dX10_isPlan_5 : decode cX10_isPlan 5 = .ok (.aload_n 0, 1) := by decide +kernel
theorem dX10_isPlan_6 : decode cX10_isPlan 6 = .ok (.getfield 289, 3) := by decide +kernel
theorem dX10_isPlan_9 : decode cX10_isPlan 9 = .ok (.if_icmp .ge 7, 3) := by decide +kernel
theorem dX10_isPlan_12 : decode cX10_isPlan 12 = .ok (.iconst 1, 1) := by decide +kernel
theorem dX10_isPlan_13 : decode cX10_isPlan 13 = .ok (.goto 4, 3) := by decide +kernel
theorem dX10_isPlan_16 : decode cX10_isPlan 16 = .ok (.iconst 0, 1) := by decide +kernel
theorem dX10_isPlan_17 : decode cX10_isPlan 17 = .ok (.ireturn, 1) := by decide +kernel
theorem dX10_law_0 : decode cX10_law 0 = .ok (.aload_n 0, 1) := by decide +kernel
theorem dX10_law_1 : decode cX10_law 1 = .ok (.iconst 0, 1) := by decide +kernel
theorem dX10_law_2 : decode cX10_law 2 = .ok (.putfield 96, 3) := by decide +kernel
theorem dX10_law_5 : decode cX10_law 5 = .ok (.iload_n 1, 1) := by decide +kernel
theorem dX10_law_6 : decode cX10_law 6 = .ok (.iconst (-1), 1) := by decide +kernel
theorem dX10_law_7 : decode cX10_law 7 = .ok (.if_icmp .eq 21, 3) := by decide +kernel
theorem dX10_law_10 : decode cX10_law 10 = .ok (.iload_n 1, 1) := by decide +kernel
theorem dX10_law_11 : decode cX10_law 11 = .ok (.i2l, 1) := by decide +kernel
theorem dX10_law_12 : decode cX10_law 12 = .ok (.lconst 0, 1) := by decide +kernel
theorem dX10_law_13 : decode cX10_law 13 = .ok (.aload_n 0, 1) := by decide +kernel
theorem dX10_law_14 : decode cX10_law 14 = .ok (.getfield 286, 3) := by decide +kernel
theorem dX10_law_17 : decode cX10_law 17 = .ok (.iconst 1, 1) := by decide +kernel
theorem dX10_law_18 : decode cX10_law 18 = .ok (.isub, 1) := by decide +kernel
theorem dX10_law_19 : decode cX10_law 19 = .ok (.i2l, 1) := by decide +kernel
theorem dX10_law_20 : decode cX10_law 20 = .ok (.invokestatic 217, 3) := by decide +kernel
theorem dX10_law_23 : decode cX10_law 23 = .ok (.ifCond .ne 5, 3) := by decide +kernel
theorem dX10_law_26 : decode cX10_law 26 = .ok (.iconst 0, 1) := by decide +kernel
theorem dX10_law_27 : decode cX10_law 27 = .ok (.ireturn, 1) := by decide +kernel
theorem dX10_law_28 : decode cX10_law 28 = .ok (.aload_n 0, 1) := by decide +kernel
theorem dX10_law_29 : decode cX10_law 29 = .ok (.iload_n 1, 1) := by decide +kernel
theorem dX10_law_30 : decode cX10_law 30 = .ok (.putfield 67, 3) := by decide +kernel
theorem dX10_law_33 : decode cX10_law 33 = .ok (.iconst 1, 1) := by decide +kernel
theorem dX10_law_34 : decode cX10_law 34 = .ok (.ireturn, 1) := by decide +kernel
theorem dX10_log_0 : decode cX10_log 0 = .ok (.aload_n 0, 1) := by decide +kernel
theorem dX10_log_1 : decode cX10_log 1 = .ok (.iconst 0, 1) := by decide +kernel
theorem dX10_log_2 : decode cX10_log 2 = .ok (.putfield 96, 3) := by decide +kernel
theorem dX10_log_5 : decode cX10_log 5 = .ok (.iload_n 1, 1) := by decide +kernel
theorem dX10_log_6 : decode cX10_log 6 = .ok (.i2l, 1) := by decide +kernel
theorem dX10_log_7 : decode cX10_log 7 = .ok (.lconst 0, 1) := by decide +kernel
theorem dX10_log_8 : decode cX10_log 8 = .ok (.aload_n 0, 1) := by decide +kernel
theorem dX10_log_9 : decode cX10_log 9 = .ok (.getfield 61, 3) := by decide +kernel
theorem dX10_log_12 : decode cX10_log 12 = .ok (.bipush 52, 2) := by decide +kernel
theorem dX10_log_14 : decode cX10_log 14 = .ok (.iaload, 1) := by decide +kernel
theorem dX10_log_15 : decode cX10_log 15 = .ok (.iconst 1, 1) := by decide +kernel
theorem dX10_log_16 : decode cX10_log 16 = .ok (.isub, 1) := by decide +kernel
theorem dX10_log_17 : decode cX10_log 17 = .ok (.i2l, 1) := by decide +kernel
theorem dX10_log_18 : decode cX10_log 18 = .ok (.invokestatic 217, 3) := by decide +kernel
theorem dX10_log_21 : decode cX10_log 21 = .ok (.ifCond .eq 41, 3) := by decide +kernel
theorem dX10_log_24 : decode cX10_log 24 = .ok (.iload_n 2, 1) := by decide +kernel
theorem dX10_log_25 : decode cX10_log 25 = .ok (.i2l, 1) := by decide +kernel
theorem dX10_log_26 : decode cX10_log 26 = .ok (.lconst 0, 1) := by decide +kernel
theorem dX10_log_27 : decode cX10_log 27 = .ok (.ldc2_w 275, 3) := by decide +kernel
theorem dX10_log_30 : decode cX10_log 30 = .ok (.invokestatic 217, 3) := by decide +kernel
theorem dX10_log_33 : decode cX10_log 33 = .ok (.ifCond .eq 29, 3) := by decide +kernel
theorem dX10_log_36 : decode cX10_log 36 = .ok (.aload_n 0, 1) := by decide +kernel
theorem dX10_log_37 : decode cX10_log 37 = .ok (.getfield 61, 3) := by decide +kernel
theorem dX10_log_40 : decode cX10_log 40 = .ok (.bipush 53, 2) := by decide +kernel
theorem dX10_log_42 : decode cX10_log 42 = .ok (.iconst 3, 1) := by decide +kernel
theorem dX10_log_43 : decode cX10_log 43 = .ok (.aload_n 0, 1) := by decide +kernel
theorem dX10_log_44 : decode cX10_log 44 = .ok (.getfield 61, 3) := by decide +kernel
theorem dX10_log_47 : decode cX10_log 47 = .ok (.bipush 52, 2) := by decide +kernel
theorem dX10_log_49 : decode cX10_log 49 = .ok (.iaload, 1) := by decide +kernel
theorem dX10_log_50 : decode cX10_log 50 = .ok (.iconst 1, 1) := by decide +kernel
theorem dX10_log_51 : decode cX10_log 51 = .ok (.isub, 1) := by decide +kernel
theorem dX10_log_52 : decode cX10_log 52 = .ok (.iload_n 1, 1) := by decide +kernel
theorem dX10_log_53 : decode cX10_log 53 = .ok (.isub, 1) := by decide +kernel
theorem dX10_log_54 : decode cX10_log 54 = .ok (.imul, 1) := by decide +kernel
theorem dX10_log_55 : decode cX10_log 55 = .ok (.iadd, 1) := by decide +kernel
theorem dX10_log_56 : decode cX10_log 56 = .ok (.iload_n 2, 1) := by decide +kernel
theorem dX10_log_57 : decode cX10_log 57 = .ok (.iadd, 1) := by decide +kernel
theorem dX10_log_58 : decode cX10_log 58 = .ok (.iaload, 1) := by decide +kernel
theorem dX10_log_59 : decode cX10_log 59 = .ok (.goto 4, 3) := by decide +kernel
theorem dX10_log_62 : decode cX10_log 62 = .ok (.iconst (-1), 1) := by decide +kernel
theorem dX10_log_63 : decode cX10_log 63 = .ok (.ireturn, 1) := by decide +kernel
theorem dX10_lunch_0 : decode cX10_lunch 0 = .ok (.aload_n 0, 1) := by decide +kernel
theorem dX10_lunch_1 : decode cX10_lunch 1 = .ok (.iconst 0, 1) := by decide +kernel
theorem dX10_lunch_2 : decode cX10_lunch 2 = .ok (.putfield 96, 3) := by decide +kernel
theorem dX10_lunch_5 : decode cX10_lunch 5 = .ok (.aload_n 0, 1) := by decide +kernel
theorem dX10_lunch_6 : decode cX10_lunch 6 = .ok (.iload_n 1, 1) := by decide +kernel
theorem dX10_lunch_7 : decode cX10_lunch 7 = .ok (.iload_n 2, 1) := by decide +kernel
theorem dX10_lunch_8 : decode cX10_lunch 8 = .ok (.invokevirtual 393, 3) := by decide +kernel
theorem dX10_lunch_11 : decode cX10_lunch 11 = .ok (.ifCond .eq 34, 3) := by decide +kernel
theorem dX10_lunch_14 : decode cX10_lunch 14 = .ok (.aload_n 0, 1) := by decide +kernel
theorem dX10_lunch_15 : decode cX10_lunch 15 = .ok (.getfield 61, 3) := by decide +kernel
theorem dX10_lunch_18 : decode cX10_lunch 18 = .ok (.iload_n 1, 1) := by decide +kernel
theorem dX10_lunch_19 : decode cX10_lunch 19 = .ok (.invokestatic 334, 3) := by decide +kernel
theorem dX10_lunch_22 : decode cX10_lunch 22 = .ok (.aload_n 0, 1) := by decide +kernel
theorem dX10_lunch_23 : decode cX10_lunch 23 = .ok (.getfield 61, 3) := by decide +kernel
theorem dX10_lunch_26 : decode cX10_lunch 26 = .ok (.iload_n 2, 1) := by decide +kernel
theorem dX10_lunch_27 : decode cX10_lunch 27 = .ok (.invokestatic 334, 3) := by decide +kernel
theorem dX10_lunch_30 : decode cX10_lunch 30 = .ok (.iadd, 1) := by decide +kernel
theorem dX10_lunch_31 : decode cX10_lunch 31 = .ok (.ifCond .eq 14, 3) := by decide +kernel
theorem dX10_lunch_34 : decode cX10_lunch 34 = .ok (.aload_n 0, 1) := by decide +kernel
theorem dX10_lunch_35 : decode cX10_lunch 35 = .ok (.getfield 61, 3) := by decide +kernel
theorem dX10_lunch_38 : decode cX10_lunch 38 = .ok (.bipush 49, 2) := by decide +kernel
theorem dX10_lunch_40 : decode cX10_lunch 40 = .ok (.iaload, 1) := by decide +kernel
theorem dX10_lunch_41 : decode cX10_lunch 41 = .ok (.iconst 1, 1) := by decide +kernel
theorem dX10_lunch_42 : decode cX10_lunch 42 = .ok (.if_icmp .ge 5, 3) := by decide +kernel
theorem dX10_lunch_45 : decode cX10_lunch 45 = .ok (.iconst (-1), 1) := by decide +kernel
theorem dX10_lunch_46 : decode cX10_lunch 46 = .ok (.ireturn, 1) := by decide +kernel
theorem dX10_lunch_47 : decode cX10_lunch 47 = .ok (.aload_n 0, 1) := by decide +kernel
theorem dX10_lunch_48 : decode cX10_lunch 48 = .ok (.invokevirtual 384, 3) := by decide +kernel
theorem dX10_lunch_51 : decode cX10_lunch 51 = .ok (.aload_n 0, 1) := by decide +kernel
theorem dX10_lunch_52 : decode cX10_lunch 52 = .ok (.getfield 61, 3) := by decide +kernel
theorem dX10_lunch_55 : decode cX10_lunch 55 = .ok (.bipush 49, 2) := by decide +kernel
theorem dX10_lunch_57 : decode cX10_lunch 57 = .ok (.dup2, 1) := by decide +kernel
theorem dX10_lunch_58 : decode cX10_lunch 58 = .ok (.iaload, 1) := by decide +kernel
theorem dX10_lunch_59 : decode cX10_lunch 59 = .ok (.iconst 1, 1) := by decide +kernel
theorem dX10_lunch_60 : decode cX10_lunch 60 = .ok (.isub, 1) := by decide +kernel
theorem dX10_lunch_61 : decode cX10_lunch 61 = .ok (.iastore, 1) := by decide +kernel
theorem dX10_lunch_62 : decode cX10_lunch 62 = .ok (.aload_n 0, 1) := by decide +kernel
theorem dX10_lunch_63 : decode cX10_lunch 63 = .ok (.getfield 61, 3) := by decide +kernel
theorem dX10_lunch_66 : decode cX10_lunch 66 = .ok (.bipush 36, 2) := by decide +kernel
theorem dX10_lunch_68 : decode cX10_lunch 68 = .ok (.iconst 2, 1) := by decide +kernel
theorem dX10_lunch_69 : decode cX10_lunch 69 = .ok (.iload_n 1, 1) := by decide +kernel
theorem dX10_lunch_70 : decode cX10_lunch 70 = .ok (.imul, 1) := by decide +kernel
theorem dX10_lunch_71 : decode cX10_lunch 71 = .ok (.iadd, 1) := by decide +kernel
theorem dX10_lunch_72 : decode cX10_lunch 72 = .ok (.iconst 0, 1) := by decide +kernel
theorem dX10_lunch_73 : decode cX10_lunch 73 = .ok (.iadd, 1) := by decide +kernel
theorem dX10_lunch_74 : decode cX10_lunch 74 = .ok (.iconst 0, 1) := by decide +kernel
theorem dX10_lunch_75 : decode cX10_lunch 75 = .ok (.aload_n 0, 1) := by decide +kernel
theorem dX10_lunch_76 : decode cX10_lunch 76 = .ok (.getfield 61, 3) := by decide +kernel
theorem dX10_lunch_79 : decode cX10_lunch 79 = .ok (.iload_n 1, 1) := by decide +kernel
theorem dX10_lunch_80 : decode cX10_lunch 80 = .ok (.invokestatic 334, 3) := by decide +kernel
theorem dX10_lunch_83 : decode cX10_lunch 83 = .ok (.iconst 2, 1) := by decide +kernel
theorem dX10_lunch_84 : decode cX10_lunch 84 = .ok (.isub, 1) := by decide +kernel
theorem dX10_lunch_85 : decode cX10_lunch 85 = .ok (.invokestatic 332, 3) := by decide +kernel
theorem dX10_lunch_88 : decode cX10_lunch 88 = .ok (.iastore, 1) := by decide +kernel
theorem dX10_lunch_89 : decode cX10_lunch 89 = .ok (.aload_n 0, 1) := by decide +kernel
theorem dX10_lunch_90 : decode cX10_lunch 90 = .ok (.getfield 61, 3) := by decide +kernel
theorem dX10_lunch_93 : decode cX10_lunch 93 = .ok (.bipush 36, 2) := by decide +kernel
theorem dX10_lunch_95 : decode cX10_lunch 95 = .ok (.iconst 2, 1) := by decide +kernel
theorem dX10_lunch_96 : decode cX10_lunch 96 = .ok (.iload_n 2, 1) := by decide +kernel
theorem dX10_lunch_97 : decode cX10_lunch 97 = .ok (.imul, 1) := by decide +kernel
theorem dX10_lunch_98 : decode cX10_lunch 98 = .ok (.iadd, 1) := by decide +kernel
theorem dX10_lunch_99 : decode cX10_lunch 99 = .ok (.iconst 0, 1) := by decide +kernel
theorem dX10_lunch_100 : decode cX10_lunch 100 = .ok (.iadd, 1) := by decide +kernel
theorem dX10_lunch_101 : decode cX10_lunch 101 = .ok (.iconst 0, 1) := by decide +kernel
theorem dX10_lunch_102 : decode cX10_lunch 102 = .ok (.aload_n 0, 1) := by decide +kernel
theorem dX10_lunch_103 : decode cX10_lunch 103 = .ok (.getfield 61, 3) := by decide +kernel
theorem dX10_lunch_106 : decode cX10_lunch 106 = .ok (.iload_n 2, 1) := by decide +kernel
theorem dX10_lunch_107 : decode cX10_lunch 107 = .ok (.invokestatic 334, 3) := by decide +kernel
theorem dX10_lunch_110 : decode cX10_lunch 110 = .ok (.iconst 2, 1) := by decide +kernel
theorem dX10_lunch_111 : decode cX10_lunch 111 = .ok (.isub, 1) := by decide +kernel
theorem dX10_lunch_112 : decode cX10_lunch 112 = .ok (.invokestatic 332, 3) := by decide +kernel
theorem dX10_lunch_115 : decode cX10_lunch 115 = .ok (.iastore, 1) := by decide +kernel
theorem dX10_lunch_116 : decode cX10_lunch 116 = .ok (.aload_n 0, 1) := by decide +kernel
theorem dX10_lunch_117 : decode cX10_lunch 117 = .ok (.getfield 61, 3) := by decide +kernel
theorem dX10_lunch_120 : decode cX10_lunch 120 = .ok (.iload_n 1, 1) := by decide +kernel
theorem dX10_lunch_121 : decode cX10_lunch 121 = .ok (.invokestatic 334, 3) := by decide +kernel
theorem dX10_lunch_124 : decode cX10_lunch 124 = .ok (.ireturn, 1) := by decide +kernel
theorem dX10_matched_0 : decode cX10_matched 0 = .ok (.aload_n 0, 1) := by decide +kernel
theorem dX10_matched_1 : decode cX10_matched 1 = .ok (.iconst 0, 1) := by decide +kernel
theorem dX10_matched_2 : decode cX10_matched 2 = .ok (.putfield 96, 3) := by decide +kernel
theorem dX10_matched_5 : decode cX10_matched 5 = .ok (.aload_n 0, 1) := by decide +kernel
theorem dX10_matched_6 : decode cX10_matched 6 = .ok (.getfield 294, 3) := by decide +kernel
theorem dX10_matched_9 : decode cX10_matched 9 = .ok (.ifCond .eq 13, 3) := by decide +kernel
theorem dX10_matched_12 : decode cX10_matched 12 = .ok (.iload_n 1, 1) := by decide +kernel
theorem dX10_matched_13 : decode cX10_matched 13 = .ok (.i2l, 1) := by decide +kernel
theorem dX10_matched_14 : decode cX10_matched 14 = .ok (.lconst 0, 1) := by decide +kernel
theorem dX10_matched_15 : decode cX10_matched 15 = .ok (.lconst 1, 1) := by decide +kernel
theorem dX10_matched_16 : decode cX10_matched 16 = .ok (.invokestatic 217, 3) := by decide +kernel
theorem dX10_matched_19 : decode cX10_matched 19 = .ok (.ifCond .ne 5, 3) := by decide +kernel
theorem dX10_matched_22 : decode cX10_matched 22 = .ok (.iconst (-1), 1) := by decide +kernel
theorem dX10_matched_23 : decode cX10_matched 23 = .ok (.ireturn, 1) := by decide +kernel
theorem dX10_matched_24 : decode cX10_matched 24 = .ok (.iconst 0, 1) := by decide +kernel
theorem dX10_matched_25 : decode cX10_matched 25 = .ok (.istore_n 2, 1) := by decide +kernel
theorem dX10_matched_26 : decode cX10_matched 26 = .ok (.iload_n 2, 1) := by decide +kernel
theorem dX10_matched_27 : decode cX10_matched 27 = .ok (.bipush 6, 2) := by decide +kernel
theorem dX10_matched_29 : decode cX10_matched 29 = .ok (.if_icmp .ge 16, 3) := by decide +kernel
theorem dX10_matched_32 : decode cX10_matched 32 = .ok (.aload_n 0, 1) := by decide +kernel
theorem dX10_matched_33 : decode cX10_matched 33 = .ok (.getfield 81, 3) := by decide +kernel
theorem dX10_matched_36 : decode cX10_matched 36 = .ok (.iload_n 2, 1) := by decide +kernel
theorem dX10_matched_37 : decode cX10_matched 37 = .ok (.iconst (-1), 1) := by decide +kernel
theorem dX10_matched_38 : decode cX10_matched 38 = .ok (.iastore, 1) := by decide +kernel
theorem dX10_matched_39 : decode cX10_matched 39 = .ok (.iinc 2 1, 3) := by decide +kernel
theorem dX10_matched_42 : decode cX10_matched 42 = .ok (.goto (-16), 3) := by decide +kernel
theorem dX10_matched_45 : decode cX10_matched 45 = .ok (.aload_n 0, 1) := by decide +kernel
theorem dX10_matched_46 : decode cX10_matched 46 = .ok (.iconst (-1), 1) := by decide +kernel
theorem dX10_matched_47 : decode cX10_matched 47 = .ok (.putfield 447, 3) := by decide +kernel
theorem dX10_matched_50 : decode cX10_matched 50 = .ok (.aload_n 0, 1) := by decide +kernel
theorem dX10_matched_51 : decode cX10_matched 51 = .ok (.iconst 0, 1) := by decide +kernel
theorem dX10_matched_52 : decode cX10_matched 52 = .ok (.putfield 450, 3) := by decide +kernel
theorem dX10_matched_55 : decode cX10_matched 55 = .ok (.aload_n 0, 1) := by decide +kernel
theorem dX10_matched_56 : decode cX10_matched 56 = .ok (.iconst 0, 1) := by decide +kernel
theorem dX10_matched_57 : decode cX10_matched 57 = .ok (.iconst 0, 1) := by decide +kernel
theorem dX10_matched_58 : decode cX10_matched 58 = .ok (.invokevirtual 453, 3) := by decide +kernel
theorem dX10_matched_61 : decode cX10_matched 61 = .ok (.iload_n 1, 1) := by decide +kernel
theorem dX10_matched_62 : decode cX10_matched 62 = .ok (.ifCond .ne 10, 3) := by decide +kernel
theorem dX10_matched_65 : decode cX10_matched 65 = .ok (.aload_n 0, 1) := by decide +kernel
theorem dX10_matched_66 : decode cX10_matched 66 = .ok (.getfield 447, 3) := by decide +kernel
theorem dX10_matched_69 : decode cX10_matched 69 = .ok (.goto 7, 3) := by decide +kernel
theorem dX10_matched_72 : decode cX10_matched 72 = .ok (.aload_n 0, 1) := by decide +kernel
theorem dX10_matched_73 : decode cX10_matched 73 = .ok (.getfield 450, 3) := by decide +kernel
theorem dX10_matched_76 : decode cX10_matched 76 = .ok (.ireturn, 1) := by decide +kernel
theorem dX10_oddsFrom_0 : decode cX10_oddsFrom 0 = .ok (.iload_n 2, 1) := by decide +kernel
theorem dX10_oddsFrom_1 : decode cX10_oddsFrom 1 = .ok (.ifCond .eq 8, 3) := by decide +kernel
theorem dX10_oddsFrom_4 : decode cX10_oddsFrom 4 = .ok (.iload 4, 2) := by decide +kernel
theorem dX10_oddsFrom_6 : decode cX10_oddsFrom 6 = .ok (.ifCond .ne 5, 3) := by decide +kernel
theorem dX10_oddsFrom_9 : decode cX10_oddsFrom 9 = .ok (.iconst 0, 1) := by decide +kernel
theorem dX10_oddsFrom_10 : decode cX10_oddsFrom 10 = .ok (.ireturn, 1) := by decide +kernel
theorem dX10_oddsFrom_11 : decode cX10_oddsFrom 11 = .ok (.iconst 0, 1) := by decide +kernel
theorem dX10_oddsFrom_12 : decode cX10_oddsFrom 12 = .ok (.istore 5, 2) := by decide +kernel
theorem dX10_oddsFrom_14 : decode cX10_oddsFrom 14 = .ok (.iload 5, 2) := by decide +kernel
theorem dX10_oddsFrom_16 : decode cX10_oddsFrom 16 = .ok (.bipush 52, 2) := by decide +kernel
theorem dX10_oddsFrom_18 : decode cX10_oddsFrom 18 = .ok (.if_icmp .gt 28, 3) := by decide +kernel
theorem dX10_oddsFrom_21 : decode cX10_oddsFrom 21 = .ok (.aload_n 0, 1) := by decide +kernel
theorem dX10_oddsFrom_22 : decode cX10_oddsFrom 22 = .ok (.getfield 90, 3) := by decide +kernel
theorem dX10_oddsFrom_25 : decode cX10_oddsFrom 25 = .ok (.bipush 53, 2) := by decide +kernel
theorem dX10_oddsFrom_27 : decode cX10_oddsFrom 27 = .ok (.iload_n 2, 1) := by decide +kernel
theorem dX10_oddsFrom_28 : decode cX10_oddsFrom 28 = .ok (.imul, 1) := by decide +kernel
theorem dX10_oddsFrom_29 : decode cX10_oddsFrom 29 = .ok (.iload 5, 2) := by decide +kernel
theorem dX10_oddsFrom_31 : decode cX10_oddsFrom 31 = .ok (.iadd, 1) := by decide +kernel
theorem dX10_oddsFrom_32 : decode cX10_oddsFrom 32 = .ok (.aload_n 0, 1) := by decide +kernel
theorem dX10_oddsFrom_33 : decode cX10_oddsFrom 33 = .ok (.getfield 64, 3) := by decide +kernel
theorem dX10_oddsFrom_36 : decode cX10_oddsFrom 36 = .ok (.iload 5, 2) := by decide +kernel
theorem dX10_oddsFrom_38 : decode cX10_oddsFrom 38 = .ok (.iaload, 1) := by decide +kernel
theorem dX10_oddsFrom_39 : decode cX10_oddsFrom 39 = .ok (.iastore, 1) := by decide +kernel
theorem dX10_oddsFrom_40 : decode cX10_oddsFrom 40 = .ok (.iinc 5 1, 3) := by decide +kernel
theorem dX10_oddsFrom_43 : decode cX10_oddsFrom 43 = .ok (.goto (-29), 3) := by decide +kernel
theorem dX10_oddsFrom_46 : decode cX10_oddsFrom 46 = .ok (.iload 4, 2) := by decide +kernel
theorem dX10_oddsFrom_48 : decode cX10_oddsFrom 48 = .ok (.i2l, 1) := by decide +kernel
theorem dX10_oddsFrom_49 : decode cX10_oddsFrom 49 = .ok (.iload_n 3, 1) := by decide +kernel
theorem dX10_oddsFrom_50 : decode cX10_oddsFrom 50 = .ok (.i2l, 1) := by decide +kernel
theorem dX10_oddsFrom_51 : decode cX10_oddsFrom 51 = .ok (.lmul, 1) := by decide +kernel
theorem dX10_oddsFrom_52 : decode cX10_oddsFrom 52 = .ok (.ldc2_w 493, 3) := by decide +kernel
theorem dX10_oddsFrom_55 : decode cX10_oddsFrom 55 = .ok (.ldiv, 1) := by decide +kernel
theorem dX10_oddsFrom_56 : decode cX10_oddsFrom 56 = .ok (.l2i, 1) := by decide +kernel
theorem dX10_oddsFrom_57 : decode cX10_oddsFrom 57 = .ok (.istore 5, 2) := by decide +kernel
theorem dX10_oddsFrom_59 : decode cX10_oddsFrom 59 = .ok (.aload_n 0, 1) := by decide +kernel
theorem dX10_oddsFrom_60 : decode cX10_oddsFrom 60 = .ok (.aload_n 0, 1) := by decide +kernel
theorem dX10_oddsFrom_61 : decode cX10_oddsFrom 61 = .ok (.getfield 64, 3) := by decide +kernel
theorem dX10_oddsFrom_64 : decode cX10_oddsFrom 64 = .ok (.iconst 0, 1) := by decide +kernel
theorem dX10_oddsFrom_65 : decode cX10_oddsFrom 65 = .ok (.invokevirtual 390, 3) := by decide +kernel
theorem dX10_oddsFrom_68 : decode cX10_oddsFrom 68 = .ok (.istore 6, 2) := by decide +kernel
theorem dX10_oddsFrom_70 : decode cX10_oddsFrom 70 = .ok (.aload_n 0, 1) := by decide +kernel
theorem dX10_oddsFrom_71 : decode cX10_oddsFrom 71 = .ok (.getfield 344, 3) := by decide +kernel
theorem dX10_oddsFrom_74 : decode cX10_oddsFrom 74 = .ok (.iload_n 1, 1) := by decide +kernel
theorem dX10_oddsFrom_75 : decode cX10_oddsFrom 75 = .ok (.invokestatic 229, 3) := by decide +kernel
theorem dX10_oddsFrom_78 : decode cX10_oddsFrom 78 = .ok (.ifCond .eq 11, 3) := by decide +kernel
theorem dX10_oddsFrom_81 : decode cX10_oddsFrom 81 = .ok (.iload 4, 2) := by decide +kernel
theorem dX10_oddsFrom_83 : decode cX10_oddsFrom 83 = .ok (.iload 5, 2) := by decide +kernel
theorem dX10_oddsFrom_85 : decode cX10_oddsFrom 85 = .ok (.isub, 1) := by decide +kernel
theorem dX10_oddsFrom_86 : decode cX10_oddsFrom 86 = .ok (.goto 17, 3) := by decide +kernel
theorem dX10_oddsFrom_89 : decode cX10_oddsFrom 89 = .ok (.aload_n 0, 1) := by decide +kernel
theorem dX10_oddsFrom_90 : decode cX10_oddsFrom 90 = .ok (.iload_n 1, 1) := by decide +kernel
theorem dX10_oddsFrom_91 : decode cX10_oddsFrom 91 = .ok (.iload_n 2, 1) := by decide +kernel
theorem dX10_oddsFrom_92 : decode cX10_oddsFrom 92 = .ok (.iconst 1, 1) := by decide +kernel
theorem dX10_oddsFrom_93 : decode cX10_oddsFrom 93 = .ok (.isub, 1) := by decide +kernel
theorem dX10_oddsFrom_94 : decode cX10_oddsFrom 94 = .ok (.iload_n 3, 1) := by decide +kernel
theorem dX10_oddsFrom_95 : decode cX10_oddsFrom 95 = .ok (.iload 4, 2) := by decide +kernel
theorem dX10_oddsFrom_97 : decode cX10_oddsFrom 97 = .ok (.iload 5, 2) := by decide +kernel
theorem dX10_oddsFrom_99 : decode cX10_oddsFrom 99 = .ok (.isub, 1) := by decide +kernel
theorem dX10_oddsFrom_100 : decode cX10_oddsFrom 100 = .ok (.invokevirtual 495, 3) := by decide +kernel
theorem dX10_oddsFrom_103 : decode cX10_oddsFrom 103 = .ok (.istore 7, 2) := by decide +kernel
theorem dX10_oddsFrom_105 : decode cX10_oddsFrom 105 = .ok (.iconst 0, 1) := by decide +kernel
theorem dX10_oddsFrom_106 : decode cX10_oddsFrom 106 = .ok (.istore 8, 2) := by decide +kernel
theorem dX10_oddsFrom_108 : decode cX10_oddsFrom 108 = .ok (.iload 8, 2) := by decide +kernel
theorem dX10_oddsFrom_110 : decode cX10_oddsFrom 110 = .ok (.bipush 52, 2) := by decide +kernel
theorem dX10_oddsFrom_112 : decode cX10_oddsFrom 112 = .ok (.if_icmp .gt 28, 3) := by decide +kernel
theorem dX10_oddsFrom_115 : decode cX10_oddsFrom 115 = .ok (.aload_n 0, 1) := by decide +kernel
theorem dX10_oddsFrom_116 : decode cX10_oddsFrom 116 = .ok (.getfield 64, 3) := by decide +kernel
theorem dX10_oddsFrom_119 : decode cX10_oddsFrom 119 = .ok (.iload 8, 2) := by decide +kernel
theorem dX10_oddsFrom_121 : decode cX10_oddsFrom 121 = .ok (.aload_n 0, 1) := by decide +kernel
theorem dX10_oddsFrom_122 : decode cX10_oddsFrom 122 = .ok (.getfield 90, 3) := by decide +kernel
theorem dX10_oddsFrom_125 : decode cX10_oddsFrom 125 = .ok (.bipush 53, 2) := by decide +kernel
theorem dX10_oddsFrom_127 : decode cX10_oddsFrom 127 = .ok (.iload_n 2, 1) := by decide +kernel
theorem dX10_oddsFrom_128 : decode cX10_oddsFrom 128 = .ok (.imul, 1) := by decide +kernel
theorem dX10_oddsFrom_129 : decode cX10_oddsFrom 129 = .ok (.iload 8, 2) := by decide +kernel
theorem dX10_oddsFrom_131 : decode cX10_oddsFrom 131 = .ok (.iadd, 1) := by decide +kernel
theorem dX10_oddsFrom_132 : decode cX10_oddsFrom 132 = .ok (.iaload, 1) := by decide +kernel
theorem dX10_oddsFrom_133 : decode cX10_oddsFrom 133 = .ok (.iastore, 1) := by decide +kernel
theorem dX10_oddsFrom_134 : decode cX10_oddsFrom 134 = .ok (.iinc 8 1, 3) := by decide +kernel
theorem dX10_oddsFrom_137 : decode cX10_oddsFrom 137 = .ok (.goto (-29), 3) := by decide +kernel
theorem dX10_oddsFrom_140 : decode cX10_oddsFrom 140 = .ok (.aload_n 0, 1) := by decide +kernel
theorem dX10_oddsFrom_141 : decode cX10_oddsFrom 141 = .ok (.aload_n 0, 1) := by decide +kernel
theorem dX10_oddsFrom_142 : decode cX10_oddsFrom 142 = .ok (.getfield 64, 3) := by decide +kernel
theorem dX10_oddsFrom_145 : decode cX10_oddsFrom 145 = .ok (.iconst 1, 1) := by decide +kernel
theorem dX10_oddsFrom_146 : decode cX10_oddsFrom 146 = .ok (.iload_n 1, 1) := by decide +kernel
theorem dX10_oddsFrom_147 : decode cX10_oddsFrom 147 = .ok (.ishl, 1) := by decide +kernel
theorem dX10_oddsFrom_148 : decode cX10_oddsFrom 148 = .ok (.invokevirtual 390, 3) := by decide +kernel
theorem dX10_oddsFrom_151 : decode cX10_oddsFrom 151 = .ok (.istore 6, 2) := by decide +kernel
theorem dX10_oddsFrom_153 : decode cX10_oddsFrom 153 = .ok (.iload 7, 2) := by decide +kernel
theorem dX10_oddsFrom_155 : decode cX10_oddsFrom 155 = .ok (.aload_n 0, 1) := by decide +kernel
theorem dX10_oddsFrom_156 : decode cX10_oddsFrom 156 = .ok (.getfield 344, 3) := by decide +kernel
theorem dX10_oddsFrom_159 : decode cX10_oddsFrom 159 = .ok (.iload_n 1, 1) := by decide +kernel
theorem dX10_oddsFrom_160 : decode cX10_oddsFrom 160 = .ok (.invokestatic 229, 3) := by decide +kernel
theorem dX10_oddsFrom_163 : decode cX10_oddsFrom 163 = .ok (.ifCond .eq 8, 3) := by decide +kernel
theorem dX10_oddsFrom_166 : decode cX10_oddsFrom 166 = .ok (.iload 5, 2) := by decide +kernel
theorem dX10_oddsFrom_168 : decode cX10_oddsFrom 168 = .ok (.goto 14, 3) := by decide +kernel
theorem dX10_oddsFrom_171 : decode cX10_oddsFrom 171 = .ok (.aload_n 0, 1) := by decide +kernel
theorem dX10_oddsFrom_172 : decode cX10_oddsFrom 172 = .ok (.iload_n 1, 1) := by decide +kernel
theorem dX10_oddsFrom_173 : decode cX10_oddsFrom 173 = .ok (.iload_n 2, 1) := by decide +kernel
theorem dX10_oddsFrom_174 : decode cX10_oddsFrom 174 = .ok (.iconst 1, 1) := by decide +kernel
theorem dX10_oddsFrom_175 : decode cX10_oddsFrom 175 = .ok (.isub, 1) := by decide +kernel
theorem dX10_oddsFrom_176 : decode cX10_oddsFrom 176 = .ok (.iload_n 3, 1) := by decide +kernel
theorem dX10_oddsFrom_177 : decode cX10_oddsFrom 177 = .ok (.iload 5, 2) := by decide +kernel
theorem dX10_oddsFrom_179 : decode cX10_oddsFrom 179 = .ok (.invokevirtual 495, 3) := by decide +kernel
theorem dX10_oddsFrom_182 : decode cX10_oddsFrom 182 = .ok (.iadd, 1) := by decide +kernel
theorem dX10_oddsFrom_183 : decode cX10_oddsFrom 183 = .ok (.ireturn, 1) := by decide +kernel
theorem dX10_odds_0 : decode cX10_odds 0 = .ok (.aload_n 0, 1) := by decide +kernel
theorem dX10_odds_1 : decode cX10_odds 1 = .ok (.iconst 0, 1) := by decide +kernel
theorem dX10_odds_2 : decode cX10_odds 2 = .ok (.putfield 96, 3) := by decide +kernel
theorem dX10_odds_5 : decode cX10_odds 5 = .ok (.aload_n 0, 1) := by decide +kernel
theorem dX10_odds_6 : decode cX10_odds 6 = .ok (.iload_n 1, 1) := by decide +kernel
theorem dX10_odds_7 : decode cX10_odds 7 = .ok (.invokevirtual 309, 3) := by decide +kernel
theorem dX10_odds_10 : decode cX10_odds 10 = .ok (.ifCond .eq 27, 3) := by decide +kernel
theorem dX10_odds_13 : decode cX10_odds 13 = .ok (.iload_n 2, 1) := by decide +kernel
theorem dX10_odds_14 : decode cX10_odds 14 = .ok (.i2l, 1) := by decide +kernel
theorem dX10_odds_15 : decode cX10_odds 15 = .ok (.lconst 0, 1) := by decide +kernel
theorem dX10_odds_16 : decode cX10_odds 16 = .ok (.ldc2_w 499, 3) := by decide +kernel
theorem dX10_odds_19 : decode cX10_odds 19 = .ok (.invokestatic 217, 3) := by decide +kernel
theorem dX10_odds_22 : decode cX10_odds 22 = .ok (.ifCond .eq 15, 3) := by decide +kernel
theorem dX10_odds_25 : decode cX10_odds 25 = .ok (.iload_n 3, 1) := by decide +kernel
theorem dX10_odds_26 : decode cX10_odds 26 = .ok (.i2l, 1) := by decide +kernel
theorem dX10_odds_27 : decode cX10_odds 27 = .ok (.lconst 0, 1) := by decide +kernel
theorem dX10_odds_28 : decode cX10_odds 28 = .ok (.ldc2_w 493, 3) := by decide +kernel
theorem dX10_odds_31 : decode cX10_odds 31 = .ok (.invokestatic 217, 3) := by decide +kernel
theorem dX10_odds_34 : decode cX10_odds 34 = .ok (.ifCond .ne 5, 3) := by decide +kernel
theorem dX10_odds_37 : decode cX10_odds 37 = .ok (.iconst (-1), 1) := by decide +kernel
theorem dX10_odds_38 : decode cX10_odds 38 = .ok (.ireturn, 1) := by decide +kernel
theorem dX10_odds_39 : decode cX10_odds 39 = .ok (.aload_n 0, 1) := by decide +kernel
theorem dX10_odds_40 : decode cX10_odds 40 = .ok (.getfield 61, 3) := by decide +kernel
theorem dX10_odds_43 : decode cX10_odds 43 = .ok (.aload_n 0, 1) := by decide +kernel
theorem dX10_odds_44 : decode cX10_odds 44 = .ok (.getfield 64, 3) := by decide +kernel
theorem dX10_odds_47 : decode cX10_odds 47 = .ok (.invokestatic 429, 3) := by decide +kernel
theorem dX10_odds_50 : decode cX10_odds 50 = .ok (.aload_n 0, 1) := by decide +kernel
theorem dX10_odds_51 : decode cX10_odds 51 = .ok (.iload_n 1, 1) := by decide +kernel
theorem dX10_odds_52 : decode cX10_odds 52 = .ok (.iload_n 2, 1) := by decide +kernel
theorem dX10_odds_53 : decode cX10_odds 53 = .ok (.iload_n 3, 1) := by decide +kernel
theorem dX10_odds_54 : decode cX10_odds 54 = .ok (.ldc_w 501, 3) := by decide +kernel
theorem dX10_odds_57 : decode cX10_odds 57 = .ok (.invokevirtual 495, 3) := by decide +kernel
theorem dX10_odds_60 : decode cX10_odds 60 = .ok (.ireturn, 1) := by decide +kernel
theorem dX10_owed_0 : decode cX10_owed 0 = .ok (.aload_n 0, 1) := by decide +kernel
theorem dX10_owed_1 : decode cX10_owed 1 = .ok (.iconst 0, 1) := by decide +kernel
theorem dX10_owed_2 : decode cX10_owed 2 = .ok (.putfield 96, 3) := by decide +kernel
theorem dX10_owed_5 : decode cX10_owed 5 = .ok (.aload_n 0, 1) := by decide +kernel
theorem dX10_owed_6 : decode cX10_owed 6 = .ok (.iload_n 1, 1) := by decide +kernel
theorem dX10_owed_7 : decode cX10_owed 7 = .ok (.iload_n 2, 1) := by decide +kernel
theorem dX10_owed_8 : decode cX10_owed 8 = .ok (.invokevirtual 393, 3) := by decide +kernel
theorem dX10_owed_11 : decode cX10_owed 11 = .ok (.ifCond .eq 15, 3) := by decide +kernel
theorem dX10_owed_14 : decode cX10_owed 14 = .ok (.aload_n 0, 1) := by decide +kernel
theorem dX10_owed_15 : decode cX10_owed 15 = .ok (.getfield 61, 3) := by decide +kernel
theorem dX10_owed_18 : decode cX10_owed 18 = .ok (.iload_n 1, 1) := by decide +kernel
theorem dX10_owed_19 : decode cX10_owed 19 = .ok (.iload_n 2, 1) := by decide +kernel
theorem dX10_owed_20 : decode cX10_owed 20 = .ok (.invokestatic 312, 3) := by decide +kernel
theorem dX10_owed_23 : decode cX10_owed 23 = .ok (.goto 4, 3) := by decide +kernel
theorem dX10_owed_26 : decode cX10_owed 26 = .ok (.iconst (-1), 1) := by decide +kernel
theorem dX10_owed_27 : decode cX10_owed 27 = .ok (.ireturn, 1) := by decide +kernel
theorem dX10_pardon_0 : decode cX10_pardon 0 = .ok (.aload_n 0, 1) := by decide +kernel
theorem dX10_pardon_1 : decode cX10_pardon 1 = .ok (.iconst 0, 1) := by decide +kernel
theorem dX10_pardon_2 : decode cX10_pardon 2 = .ok (.putfield 96, 3) := by decide +kernel
theorem dX10_pardon_5 : decode cX10_pardon 5 = .ok (.aload_n 0, 1) := by decide +kernel
theorem dX10_pardon_6 : decode cX10_pardon 6 = .ok (.aload_n 0, 1) := by decide +kernel
theorem dX10_pardon_7 : decode cX10_pardon 7 = .ok (.getfield 61, 3) := by decide +kernel
theorem dX10_pardon_10 : decode cX10_pardon 10 = .ok (.iload_n 1, 1) := by decide +kernel
theorem dX10_pardon_11 : decode cX10_pardon 11 = .ok (.iload_n 2, 1) := by decide +kernel
theorem dX10_pardon_12 : decode cX10_pardon 12 = .ok (.invokevirtual 404, 3) := by decide +kernel
theorem dX10_pardon_15 : decode cX10_pardon 15 = .ok (.ifCond .ne 5, 3) := by decide +kernel
theorem dX10_pardon_18 : decode cX10_pardon 18 = .ok (.iconst (-1), 1) := by decide +kernel
theorem dX10_pardon_19 : decode cX10_pardon 19 = .ok (.ireturn, 1) := by decide +kernel
theorem dX10_pardon_20 : decode cX10_pardon 20 = .ok (.aload_n 0, 1) := by decide +kernel
theorem dX10_pardon_21 : decode cX10_pardon 21 = .ok (.invokevirtual 384, 3) := by decide +kernel
theorem dX10_pardon_24 : decode cX10_pardon 24 = .ok (.aload_n 0, 1) := by decide +kernel
theorem dX10_pardon_25 : decode cX10_pardon 25 = .ok (.getfield 61, 3) := by decide +kernel
theorem dX10_pardon_28 : decode cX10_pardon 28 = .ok (.iload_n 1, 1) := by decide +kernel
theorem dX10_pardon_29 : decode cX10_pardon 29 = .ok (.iload_n 2, 1) := by decide +kernel
theorem dX10_pardon_30 : decode cX10_pardon 30 = .ok (.invokestatic 312, 3) := by decide +kernel
theorem dX10_pardon_33 : decode cX10_pardon 33 = .ok (.istore_n 3, 1) := by decide +kernel
theorem dX10_pardon_34 : decode cX10_pardon 34 = .ok (.aload_n 0, 1) := by decide +kernel
theorem dX10_pardon_35 : decode cX10_pardon 35 = .ok (.getfield 61, 3) := by decide +kernel
theorem dX10_pardon_38 : decode cX10_pardon 38 = .ok (.iload_n 1, 1) := by decide +kernel
theorem dX10_pardon_39 : decode cX10_pardon 39 = .ok (.iload_n 2, 1) := by decide +kernel
theorem dX10_pardon_40 : decode cX10_pardon 40 = .ok (.invokestatic 407, 3) := by decide +kernel
theorem dX10_pardon_43 : decode cX10_pardon 43 = .ok (.iload_n 3, 1) := by decide +kernel
theorem dX10_pardon_44 : decode cX10_pardon 44 = .ok (.ireturn, 1) := by decide +kernel
theorem dX10_perform_0 : decode cX10_perform 0 = .ok (.aload_n 0, 1) := by decide +kernel
theorem dX10_perform_1 : decode cX10_perform 1 = .ok (.iconst 0, 1) := by decide +kernel
theorem dX10_perform_2 : decode cX10_perform 2 = .ok (.putfield 96, 3) := by decide +kernel
theorem dX10_perform_5 : decode cX10_perform 5 = .ok (.aload_n 0, 1) := by decide +kernel
theorem dX10_perform_6 : decode cX10_perform 6 = .ok (.iload_n 1, 1) := by decide +kernel
theorem dX10_perform_7 : decode cX10_perform 7 = .ok (.invokevirtual 425, 3) := by decide +kernel
theorem dX10_perform_10 : decode cX10_perform 10 = .ok (.ifCond .eq 10, 3) := by decide +kernel
theorem dX10_perform_13 : decode cX10_perform 13 = .ok (.aload_n 0, 1) := by decide +kernel
theorem dX10_perform_14 : decode cX10_perform 14 = .ok (.getfield 294, 3) := by decide +kernel
theorem dX10_perform_17 : decode cX10_perform 17 = .ok (.ifCond .ne 5, 3) := by decide +kernel
theorem dX10_perform_20 : decode cX10_perform 20 = .ok (.iconst (-1), 1) := by decide +kernel
theorem dX10_perform_21 : decode cX10_perform 21 = .ok (.ireturn, 1) := by decide +kernel
theorem dX10_perform_22 : decode cX10_perform 22 = .ok (.iconst 0, 1) := by decide +kernel
theorem dX10_perform_23 : decode cX10_perform 23 = .ok (.istore_n 2, 1) := by decide +kernel
theorem dX10_perform_24 : decode cX10_perform 24 = .ok (.iload_n 2, 1) := by decide +kernel
theorem dX10_perform_25 : decode cX10_perform 25 = .ok (.aload_n 0, 1) := by decide +kernel
theorem dX10_perform_26 : decode cX10_perform 26 = .ok (.getfield 58, 3) := by decide +kernel
theorem dX10_perform_29 : decode cX10_perform 29 = .ok (.iload_n 1, 1) := by decide +kernel
theorem dX10_perform_30 : decode cX10_perform 30 = .ok (.iaload, 1) := by decide +kernel
theorem dX10_perform_31 : decode cX10_perform 31 = .ok (.if_icmp .ge 48, 3) := by decide +kernel
theorem dX10_perform_34 : decode cX10_perform 34 = .ok (.aload_n 0, 1) := by decide +kernel
theorem dX10_perform_35 : decode cX10_perform 35 = .ok (.aload_n 0, 1) := by decide +kernel
theorem dX10_perform_36 : decode cX10_perform 36 = .ok (.getfield 61, 3) := by decide +kernel
theorem dX10_perform_39 : decode cX10_perform 39 = .ok (.iconst 3, 1) := by decide +kernel
theorem dX10_perform_40 : decode cX10_perform 40 = .ok (.bipush 16, 2) := by decide +kernel
theorem dX10_perform_42 : decode cX10_perform 42 = .ok (.iload_n 1, 1) := by decide +kernel
theorem dX10_perform_43 : decode cX10_perform 43 = .ok (.imul, 1) := by decide +kernel
theorem dX10_perform_44 : decode cX10_perform 44 = .ok (.iload_n 2, 1) := by decide +kernel
theorem dX10_perform_45 : decode cX10_perform 45 = .ok (.iadd, 1) := by decide +kernel
theorem dX10_perform_46 : decode cX10_perform 46 = .ok (.imul, 1) := by decide +kernel
theorem dX10_perform_47 : decode cX10_perform 47 = .ok (.invokevirtual 433, 3) := by decide +kernel
theorem dX10_perform_50 : decode cX10_perform 50 = .ok (.ifCond .eq 29, 3) := by decide +kernel
theorem dX10_perform_53 : decode cX10_perform 53 = .ok (.aload_n 0, 1) := by decide +kernel
theorem dX10_perform_54 : decode cX10_perform 54 = .ok (.invokevirtual 384, 3) := by decide +kernel
theorem dX10_perform_57 : decode cX10_perform 57 = .ok (.aload_n 0, 1) := by decide +kernel
theorem dX10_perform_58 : decode cX10_perform 58 = .ok (.aload_n 0, 1) := by decide +kernel
theorem dX10_perform_59 : decode cX10_perform 59 = .ok (.getfield 61, 3) := by decide +kernel
theorem dX10_perform_62 : decode cX10_perform 62 = .ok (.iconst 3, 1) := by decide +kernel
theorem dX10_perform_63 : decode cX10_perform 63 = .ok (.bipush 16, 2) := by decide +kernel
theorem dX10_perform_65 : decode cX10_perform 65 = .ok (.iload_n 1, 1) := by decide +kernel
theorem dX10_perform_66 : decode cX10_perform 66 = .ok (.imul, 1) := by decide +kernel
theorem dX10_perform_67 : decode cX10_perform 67 = .ok (.iload_n 2, 1) := by decide +kernel
theorem dX10_perform_68 : decode cX10_perform 68 = .ok (.iadd, 1) := by decide +kernel
theorem dX10_perform_69 : decode cX10_perform 69 = .ok (.imul, 1) := by decide +kernel
theorem dX10_perform_70 : decode cX10_perform 70 = .ok (.invokevirtual 436, 3) := by decide +kernel
theorem dX10_perform_73 : decode cX10_perform 73 = .ok (.iinc 2 1, 3) := by decide +kernel
theorem dX10_perform_76 : decode cX10_perform 76 = .ok (.goto (-52), 3) := by decide +kernel
theorem dX10_perform_79 : decode cX10_perform 79 = .ok (.iload_n 2, 1) := by decide +kernel
theorem dX10_perform_80 : decode cX10_perform 80 = .ok (.ireturn, 1) := by decide +kernel
theorem dX10_person_0 : decode cX10_person 0 = .ok (.aload_n 0, 1) := by decide +kernel
theorem dX10_person_1 : decode cX10_person 1 = .ok (.aload_n 0, 1) := by decide +kernel
theorem dX10_person_2 : decode cX10_person 2 = .ok (.iload_n 1, 1) := by decide +kernel
theorem dX10_person_3 : decode cX10_person 3 = .ok (.invokevirtual 309, 3) := by decide +kernel
theorem dX10_person_6 : decode cX10_person 6 = .ok (.ifCond .eq 19, 3) := by decide +kernel
theorem dX10_person_9 : decode cX10_person 9 = .ok (.iload_n 2, 1) := by decide +kernel
theorem dX10_person_10 : decode cX10_person 10 = .ok (.i2l, 1) := by decide +kernel
theorem dX10_person_11 : decode cX10_person 11 = .ok (.lconst 0, 1) := by decide +kernel
theorem dX10_person_12 : decode cX10_person 12 = .ok (.ldc2_w 364, 3) := by decide +kernel
theorem dX10_person_15 : decode cX10_person 15 = .ok (.invokestatic 217, 3) := by decide +kernel
theorem dX10_person_18 : decode cX10_person 18 = .ok (.ifCond .eq 7, 3) := by decide +kernel
theorem dX10_person_21 : decode cX10_person 21 = .ok (.iconst 0, 1) := by decide +kernel
theorem dX10_person_22 : decode cX10_person 22 = .ok (.goto 4, 3) := by decide +kernel
theorem dX10_person_25 : decode cX10_person 25 = .ok (.iconst 1, 1) := by decide +kernel
theorem dX10_person_26 : decode cX10_person 26 = .ok (.putfield 96, 3) := by decide +kernel
theorem dX10_person_29 : decode cX10_person 29 = .ok (.aload_n 0, 1) := by decide +kernel
theorem dX10_person_30 : decode cX10_person 30 = .ok (.getfield 96, 3) := by decide +kernel
theorem dX10_person_33 : decode cX10_person 33 = .ok (.ifCond .le 5, 3) := by decide +kernel
theorem dX10_person_36 : decode cX10_person 36 = .ok (.iconst 0, 1) := by decide +kernel
theorem dX10_person_37 : decode cX10_person 37 = .ok (.ireturn, 1) := by decide +kernel
theorem dX10_person_38 : decode cX10_person 38 = .ok (.iload_n 2, 1) := by decide +kernel
theorem dX10_person_39 : decode cX10_person 39 = .ok (.iconst 2, 1) := by decide +kernel
theorem dX10_person_40 : decode cX10_person 40 = .ok (.if_icmp .ne 16, 3) := by decide +kernel
theorem dX10_person_43 : decode cX10_person 43 = .ok (.aload_n 0, 1) := by decide +kernel
theorem dX10_person_44 : decode cX10_person 44 = .ok (.getfield 43, 3) := by decide +kernel
theorem dX10_person_47 : decode cX10_person 47 = .ok (.iconst 3, 1) := by decide +kernel
theorem dX10_person_48 : decode cX10_person 48 = .ok (.iload_n 1, 1) := by decide +kernel
theorem dX10_person_49 : decode cX10_person 49 = .ok (.imul, 1) := by decide +kernel
theorem dX10_person_50 : decode cX10_person 50 = .ok (.iconst 2, 1) := by decide +kernel
theorem dX10_person_51 : decode cX10_person 51 = .ok (.iadd, 1) := by decide +kernel
theorem dX10_person_52 : decode cX10_person 52 = .ok (.iaload, 1) := by decide +kernel
theorem dX10_person_53 : decode cX10_person 53 = .ok (.goto 29, 3) := by decide +kernel
theorem dX10_person_56 : decode cX10_person 56 = .ok (.iload_n 2, 1) := by decide +kernel
theorem dX10_person_57 : decode cX10_person 57 = .ok (.iconst 3, 1) := by decide +kernel
theorem dX10_person_58 : decode cX10_person 58 = .ok (.if_icmp .ne 11, 3) := by decide +kernel
theorem dX10_person_61 : decode cX10_person 61 = .ok (.aload_n 0, 1) := by decide +kernel
theorem dX10_person_62 : decode cX10_person 62 = .ok (.iload_n 1, 1) := by decide +kernel
theorem dX10_person_63 : decode cX10_person 63 = .ok (.invokevirtual 366, 3) := by decide +kernel
theorem dX10_person_66 : decode cX10_person 66 = .ok (.goto 16, 3) := by decide +kernel
theorem dX10_person_69 : decode cX10_person 69 = .ok (.aload_n 0, 1) := by decide +kernel
theorem dX10_person_70 : decode cX10_person 70 = .ok (.getfield 61, 3) := by decide +kernel
theorem dX10_person_73 : decode cX10_person 73 = .ok (.bipush 36, 2) := by decide +kernel
theorem dX10_person_75 : decode cX10_person 75 = .ok (.iconst 2, 1) := by decide +kernel
theorem dX10_person_76 : decode cX10_person 76 = .ok (.iload_n 1, 1) := by decide +kernel
theorem dX10_person_77 : decode cX10_person 77 = .ok (.imul, 1) := by decide +kernel
theorem dX10_person_78 : decode cX10_person 78 = .ok (.iadd, 1) := by decide +kernel
theorem dX10_person_79 : decode cX10_person 79 = .ok (.iload_n 2, 1) := by decide +kernel
theorem dX10_person_80 : decode cX10_person 80 = .ok (.iadd, 1) := by decide +kernel
theorem dX10_person_81 : decode cX10_person 81 = .ok (.iaload, 1) := by decide +kernel
theorem dX10_person_82 : decode cX10_person 82 = .ok (.ireturn, 1) := by decide +kernel
theorem dX10_rests_0 : decode cX10_rests 0 = .ok (.aload_n 0, 1) := by decide +kernel
theorem dX10_rests_1 : decode cX10_rests 1 = .ok (.iconst 0, 1) := by decide +kernel
theorem dX10_rests_2 : decode cX10_rests 2 = .ok (.putfield 96, 3) := by decide +kernel
theorem dX10_rests_5 : decode cX10_rests 5 = .ok (.aload_n 0, 1) := by decide +kernel
theorem dX10_rests_6 : decode cX10_rests 6 = .ok (.iload_n 1, 1) := by decide +kernel
theorem dX10_rests_7 : decode cX10_rests 7 = .ok (.iload_n 2, 1) := by decide +kernel
theorem dX10_rests_8 : decode cX10_rests 8 = .ok (.invokevirtual 393, 3) := by decide +kernel
theorem dX10_rests_11 : decode cX10_rests 11 = .ok (.ifCond .eq 8, 3) := by decide +kernel
theorem dX10_rests_14 : decode cX10_rests 14 = .ok (.iload_n 3, 1) := by decide +kernel
theorem dX10_rests_15 : decode cX10_rests 15 = .ok (.iconst (-1), 1) := by decide +kernel
theorem dX10_rests_16 : decode cX10_rests 16 = .ok (.if_icmp .ge 5, 3) := by decide +kernel
theorem dX10_rests_19 : decode cX10_rests 19 = .ok (.iconst (-1), 1) := by decide +kernel
theorem dX10_rests_20 : decode cX10_rests 20 = .ok (.ireturn, 1) := by decide +kernel
theorem dX10_rests_21 : decode cX10_rests 21 = .ok (.iconst 0, 1) := by decide +kernel
theorem dX10_rests_22 : decode cX10_rests 22 = .ok (.istore 4, 2) := by decide +kernel
theorem dX10_rests_24 : decode cX10_rests 24 = .ok (.iconst 0, 1) := by decide +kernel
theorem dX10_rests_25 : decode cX10_rests 25 = .ok (.istore 5, 2) := by decide +kernel
theorem dX10_rests_27 : decode cX10_rests 27 = .ok (.iload 5, 2) := by decide +kernel
theorem dX10_rests_29 : decode cX10_rests 29 = .ok (.aload_n 0, 1) := by decide +kernel
theorem dX10_rests_30 : decode cX10_rests 30 = .ok (.getfield 294, 3) := by decide +kernel
theorem dX10_rests_33 : decode cX10_rests 33 = .ok (.if_icmp .ge 136, 3) := by decide +kernel
theorem dX10_rests_36 : decode cX10_rests 36 = .ok (.iconst 0, 1) := by decide +kernel
theorem dX10_rests_37 : decode cX10_rests 37 = .ok (.istore 6, 2) := by decide +kernel
theorem dX10_rests_39 : decode cX10_rests 39 = .ok (.iload 6, 2) := by decide +kernel
theorem dX10_rests_41 : decode cX10_rests 41 = .ok (.aload_n 0, 1) := by decide +kernel
theorem dX10_rests_42 : decode cX10_rests 42 = .ok (.getfield 294, 3) := by decide +kernel
theorem dX10_rests_45 : decode cX10_rests 45 = .ok (.if_icmp .ge 118, 3) := by decide +kernel
theorem dX10_rests_48 : decode cX10_rests 48 = .ok (.iconst 1, 1) := by decide +kernel
theorem dX10_rests_49 : decode cX10_rests 49 = .ok (.istore 7, 2) := by decide +kernel
theorem dX10_rests_51 : decode cX10_rests 51 = .ok (.iconst 0, 1) := by decide +kernel
theorem dX10_rests_52 : decode cX10_rests 52 = .ok (.istore 8, 2) := by decide +kernel
theorem dX10_rests_54 : decode cX10_rests 54 = .ok (.iload 8, 2) := by decide +kernel
theorem dX10_rests_56 : decode cX10_rests 56 = .ok (.aload_n 0, 1) := by decide +kernel
theorem dX10_rests_57 : decode cX10_rests 57 = .ok (.getfield 294, 3) := by decide +kernel
theorem dX10_rests_60 : decode cX10_rests 60 = .ok (.if_icmp .ge 71, 3) := by decide +kernel
theorem dX10_rests_63 : decode cX10_rests 63 = .ok (.iload 7, 2) := by decide +kernel
theorem dX10_rests_65 : decode cX10_rests 65 = .ok (.ifCond .eq 66, 3) := by decide +kernel
theorem dX10_rests_68 : decode cX10_rests 68 = .ok (.aload_n 0, 1) := by decide +kernel
theorem dX10_rests_69 : decode cX10_rests 69 = .ok (.iload_n 1, 1) := by decide +kernel
theorem dX10_rests_70 : decode cX10_rests 70 = .ok (.iload_n 2, 1) := by decide +kernel
theorem dX10_rests_71 : decode cX10_rests 71 = .ok (.iload 8, 2) := by decide +kernel
theorem dX10_rests_73 : decode cX10_rests 73 = .ok (.iload 6, 2) := by decide +kernel
theorem dX10_rests_75 : decode cX10_rests 75 = .ok (.iconst 0, 1) := by decide +kernel
theorem dX10_rests_76 : decode cX10_rests 76 = .ok (.invokevirtual 489, 3) := by decide +kernel
theorem dX10_rests_79 : decode cX10_rests 79 = .ok (.aload_n 0, 1) := by decide +kernel
theorem dX10_rests_80 : decode cX10_rests 80 = .ok (.iload_n 1, 1) := by decide +kernel
theorem dX10_rests_81 : decode cX10_rests 81 = .ok (.iload_n 2, 1) := by decide +kernel
theorem dX10_rests_82 : decode cX10_rests 82 = .ok (.iload 5, 2) := by decide +kernel
theorem dX10_rests_84 : decode cX10_rests 84 = .ok (.iload 6, 2) := by decide +kernel
theorem dX10_rests_86 : decode cX10_rests 86 = .ok (.iconst 0, 1) := by decide +kernel
theorem dX10_rests_87 : decode cX10_rests 87 = .ok (.invokevirtual 489, 3) := by decide +kernel
theorem dX10_rests_90 : decode cX10_rests 90 = .ok (.if_icmp .gt 32, 3) := by decide +kernel
theorem dX10_rests_93 : decode cX10_rests 93 = .ok (.aload_n 0, 1) := by decide +kernel
theorem dX10_rests_94 : decode cX10_rests 94 = .ok (.iload_n 1, 1) := by decide +kernel
theorem dX10_rests_95 : decode cX10_rests 95 = .ok (.iload_n 2, 1) := by decide +kernel
theorem dX10_rests_96 : decode cX10_rests 96 = .ok (.iload 5, 2) := by decide +kernel
theorem dX10_rests_98 : decode cX10_rests 98 = .ok (.iload 8, 2) := by decide +kernel
theorem dX10_rests_100 : decode cX10_rests 100 = .ok (.iconst 1, 1) := by decide +kernel
theorem dX10_rests_101 : decode cX10_rests 101 = .ok (.invokevirtual 489, 3) := by decide +kernel
theorem dX10_rests_104 : decode cX10_rests 104 = .ok (.aload_n 0, 1) := by decide +kernel
theorem dX10_rests_105 : decode cX10_rests 105 = .ok (.iload_n 1, 1) := by decide +kernel
theorem dX10_rests_106 : decode cX10_rests 106 = .ok (.iload_n 2, 1) := by decide +kernel
theorem dX10_rests_107 : decode cX10_rests 107 = .ok (.iload 5, 2) := by decide +kernel
theorem dX10_rests_109 : decode cX10_rests 109 = .ok (.iload 6, 2) := by decide +kernel
theorem dX10_rests_111 : decode cX10_rests 111 = .ok (.iconst 1, 1) := by decide +kernel
theorem dX10_rests_112 : decode cX10_rests 112 = .ok (.invokevirtual 489, 3) := by decide +kernel
theorem dX10_rests_115 : decode cX10_rests 115 = .ok (.if_icmp .gt 7, 3) := by decide +kernel
theorem dX10_rests_118 : decode cX10_rests 118 = .ok (.iconst 1, 1) := by decide +kernel
theorem dX10_rests_119 : decode cX10_rests 119 = .ok (.goto 4, 3) := by decide +kernel
theorem dX10_rests_122 : decode cX10_rests 122 = .ok (.iconst 0, 1) := by decide +kernel
theorem dX10_rests_123 : decode cX10_rests 123 = .ok (.istore 7, 2) := by decide +kernel
theorem dX10_rests_125 : decode cX10_rests 125 = .ok (.iinc 8 1, 3) := by decide +kernel
theorem dX10_rests_128 : decode cX10_rests 128 = .ok (.goto (-74), 3) := by decide +kernel
theorem dX10_rests_131 : decode cX10_rests 131 = .ok (.iload 7, 2) := by decide +kernel
theorem dX10_rests_133 : decode cX10_rests 133 = .ok (.ifCond .ne 6, 3) := by decide +kernel
theorem dX10_rests_136 : decode cX10_rests 136 = .ok (.goto 21, 3) := by decide +kernel
theorem dX10_rests_139 : decode cX10_rests 139 = .ok (.iload 4, 2) := by decide +kernel
theorem dX10_rests_141 : decode cX10_rests 141 = .ok (.iload_n 3, 1) := by decide +kernel
theorem dX10_rests_142 : decode cX10_rests 142 = .ok (.if_icmp .ne 12, 3) := by decide +kernel
theorem dX10_rests_145 : decode cX10_rests 145 = .ok (.bipush 10, 2) := by decide +kernel
theorem dX10_rests_147 : decode cX10_rests 147 = .ok (.iload 5, 2) := by decide +kernel
theorem dX10_rests_149 : decode cX10_rests 149 = .ok (.imul, 1) := by decide +kernel
theorem dX10_rests_150 : decode cX10_rests 150 = .ok (.iload 6, 2) := by decide +kernel
theorem dX10_rests_152 : decode cX10_rests 152 = .ok (.iadd, 1) := by decide +kernel
theorem dX10_rests_153 : decode cX10_rests 153 = .ok (.ireturn, 1) := by decide +kernel
theorem dX10_rests_154 : decode cX10_rests 154 = .ok (.iinc 4 1, 3) := by decide +kernel
theorem dX10_rests_157 : decode cX10_rests 157 = .ok (.iinc 6 1, 3) := by decide +kernel
theorem dX10_rests_160 : decode cX10_rests 160 = .ok (.goto (-121), 3) := by decide +kernel
theorem dX10_rests_163 : decode cX10_rests 163 = .ok (.iinc 5 1, 3) := by decide +kernel
theorem dX10_rests_166 : decode cX10_rests 166 = .ok (.goto (-139), 3) := by decide +kernel
theorem dX10_rests_169 : decode cX10_rests 169 = .ok (.iload_n 3, 1) := by decide +kernel
theorem dX10_rests_170 : decode cX10_rests 170 = .ok (.iconst (-1), 1) := by decide +kernel
theorem dX10_rests_171 : decode cX10_rests 171 = .ok (.if_icmp .ne 8, 3) := by decide +kernel
theorem dX10_rests_174 : decode cX10_rests 174 = .ok (.iload 4, 2) := by decide +kernel
theorem dX10_rests_176 : decode cX10_rests 176 = .ok (.goto 4, 3) := by decide +kernel
theorem dX10_rests_179 : decode cX10_rests 179 = .ok (.iconst (-1), 1) := by decide +kernel
theorem dX10_rests_180 : decode cX10_rests 180 = .ok (.ireturn, 1) := by decide +kernel
theorem dX10_run_0 : decode cX10_run 0 = .ok (.aload_n 0, 1) := by decide +kernel
theorem dX10_run_1 : decode cX10_run 1 = .ok (.iconst 0, 1) := by decide +kernel
theorem dX10_run_2 : decode cX10_run 2 = .ok (.putfield 96, 3) := by decide +kernel
theorem dX10_run_5 : decode cX10_run 5 = .ok (.aload_n 0, 1) := by decide +kernel
theorem dX10_run_6 : decode cX10_run 6 = .ok (.iload_n 1, 1) := by decide +kernel
theorem dX10_run_7 : decode cX10_run 7 = .ok (.invokevirtual 425, 3) := by decide +kernel
theorem dX10_run_10 : decode cX10_run 10 = .ok (.ifCond .eq 20, 3) := by decide +kernel
theorem dX10_run_13 : decode cX10_run 13 = .ok (.aload_n 0, 1) := by decide +kernel
theorem dX10_run_14 : decode cX10_run 14 = .ok (.getfield 294, 3) := by decide +kernel
theorem dX10_run_17 : decode cX10_run 17 = .ok (.ifCond .eq 13, 3) := by decide +kernel
theorem dX10_run_20 : decode cX10_run 20 = .ok (.iload_n 2, 1) := by decide +kernel
theorem dX10_run_21 : decode cX10_run 21 = .ok (.i2l, 1) := by decide +kernel
theorem dX10_run_22 : decode cX10_run 22 = .ok (.lconst 0, 1) := by decide +kernel
theorem dX10_run_23 : decode cX10_run 23 = .ok (.lconst 1, 1) := by decide +kernel
theorem dX10_run_24 : decode cX10_run 24 = .ok (.invokestatic 217, 3) := by decide +kernel
theorem dX10_run_27 : decode cX10_run 27 = .ok (.ifCond .ne 7, 3) := by decide +kernel
theorem dX10_run_30 : decode cX10_run 30 = .ok (.ldc_w 428, 3) := by decide +kernel
theorem dX10_run_33 : decode cX10_run 33 = .ok (.ireturn, 1) := by decide +kernel
theorem dX10_run_34 : decode cX10_run 34 = .ok (.aload_n 0, 1) := by decide +kernel
theorem dX10_run_35 : decode cX10_run 35 = .ok (.getfield 61, 3) := by decide +kernel
theorem dX10_run_38 : decode cX10_run 38 = .ok (.aload_n 0, 1) := by decide +kernel
theorem dX10_run_39 : decode cX10_run 39 = .ok (.getfield 64, 3) := by decide +kernel
theorem dX10_run_42 : decode cX10_run 42 = .ok (.invokestatic 429, 3) := by decide +kernel
theorem dX10_run_45 : decode cX10_run 45 = .ok (.iconst 0, 1) := by decide +kernel
theorem dX10_run_46 : decode cX10_run 46 = .ok (.istore_n 3, 1) := by decide +kernel
theorem dX10_run_47 : decode cX10_run 47 = .ok (.iload_n 3, 1) := by decide +kernel
theorem dX10_run_48 : decode cX10_run 48 = .ok (.aload_n 0, 1) := by decide +kernel
theorem dX10_run_49 : decode cX10_run 49 = .ok (.getfield 58, 3) := by decide +kernel
theorem dX10_run_52 : decode cX10_run 52 = .ok (.iload_n 1, 1) := by decide +kernel
theorem dX10_run_53 : decode cX10_run 53 = .ok (.iaload, 1) := by decide +kernel
theorem dX10_run_54 : decode cX10_run 54 = .ok (.if_icmp .ge 44, 3) := by decide +kernel
theorem dX10_run_57 : decode cX10_run 57 = .ok (.aload_n 0, 1) := by decide +kernel
theorem dX10_run_58 : decode cX10_run 58 = .ok (.aload_n 0, 1) := by decide +kernel
theorem dX10_run_59 : decode cX10_run 59 = .ok (.getfield 64, 3) := by decide +kernel
theorem dX10_run_62 : decode cX10_run 62 = .ok (.iconst 3, 1) := by decide +kernel
theorem dX10_run_63 : decode cX10_run 63 = .ok (.bipush 16, 2) := by decide +kernel
theorem dX10_run_65 : decode cX10_run 65 = .ok (.iload_n 1, 1) := by decide +kernel
theorem dX10_run_66 : decode cX10_run 66 = .ok (.imul, 1) := by decide +kernel
theorem dX10_run_67 : decode cX10_run 67 = .ok (.iload_n 3, 1) := by decide +kernel
theorem dX10_run_68 : decode cX10_run 68 = .ok (.iadd, 1) := by decide +kernel
theorem dX10_run_69 : decode cX10_run 69 = .ok (.imul, 1) := by decide +kernel
theorem dX10_run_70 : decode cX10_run 70 = .ok (.invokevirtual 433, 3) := by decide +kernel
theorem dX10_run_73 : decode cX10_run 73 = .ok (.ifCond .eq 25, 3) := by decide +kernel
theorem dX10_run_76 : decode cX10_run 76 = .ok (.aload_n 0, 1) := by decide +kernel
theorem dX10_run_77 : decode cX10_run 77 = .ok (.aload_n 0, 1) := by decide +kernel
theorem dX10_run_78 : decode cX10_run 78 = .ok (.getfield 64, 3) := by decide +kernel
theorem dX10_run_81 : decode cX10_run 81 = .ok (.iconst 3, 1) := by decide +kernel
theorem dX10_run_82 : decode cX10_run 82 = .ok (.bipush 16, 2) := by decide +kernel
theorem dX10_run_84 : decode cX10_run 84 = .ok (.iload_n 1, 1) := by decide +kernel
theorem dX10_run_85 : decode cX10_run 85 = .ok (.imul, 1) := by decide +kernel
theorem dX10_run_86 : decode cX10_run 86 = .ok (.iload_n 3, 1) := by decide +kernel
theorem dX10_run_87 : decode cX10_run 87 = .ok (.iadd, 1) := by decide +kernel
theorem dX10_run_88 : decode cX10_run 88 = .ok (.imul, 1) := by decide +kernel
theorem dX10_run_89 : decode cX10_run 89 = .ok (.invokevirtual 436, 3) := by decide +kernel
theorem dX10_run_92 : decode cX10_run 92 = .ok (.iinc 3 1, 3) := by decide +kernel
theorem dX10_run_95 : decode cX10_run 95 = .ok (.goto (-48), 3) := by decide +kernel
theorem dX10_run_98 : decode cX10_run 98 = .ok (.iload_n 2, 1) := by decide +kernel
theorem dX10_run_99 : decode cX10_run 99 = .ok (.iconst 1, 1) := by decide +kernel
theorem dX10_run_100 : decode cX10_run 100 = .ok (.if_icmp .ne 19, 3) := by decide +kernel
theorem dX10_run_103 : decode cX10_run 103 = .ok (.aload_n 0, 1) := by decide +kernel
theorem dX10_run_104 : decode cX10_run 104 = .ok (.getfield 64, 3) := by decide +kernel
theorem dX10_run_107 : decode cX10_run 107 = .ok (.bipush 50, 2) := by decide +kernel
theorem dX10_run_109 : decode cX10_run 109 = .ok (.iaload, 1) := by decide +kernel
theorem dX10_run_110 : decode cX10_run 110 = .ok (.aload_n 0, 1) := by decide +kernel
theorem dX10_run_111 : decode cX10_run 111 = .ok (.getfield 61, 3) := by decide +kernel
theorem dX10_run_114 : decode cX10_run 114 = .ok (.bipush 50, 2) := by decide +kernel
theorem dX10_run_116 : decode cX10_run 116 = .ok (.iaload, 1) := by decide +kernel
theorem dX10_run_117 : decode cX10_run 117 = .ok (.isub, 1) := by decide +kernel
theorem dX10_run_118 : decode cX10_run 118 = .ok (.ireturn, 1) := by decide +kernel
theorem dX10_run_119 : decode cX10_run 119 = .ok (.iload_n 3, 1) := by decide +kernel
theorem dX10_run_120 : decode cX10_run 120 = .ok (.aload_n 0, 1) := by decide +kernel
theorem dX10_run_121 : decode cX10_run 121 = .ok (.getfield 58, 3) := by decide +kernel
theorem dX10_run_124 : decode cX10_run 124 = .ok (.iload_n 1, 1) := by decide +kernel
theorem dX10_run_125 : decode cX10_run 125 = .ok (.iaload, 1) := by decide +kernel
theorem dX10_run_126 : decode cX10_run 126 = .ok (.if_icmp .ne 7, 3) := by decide +kernel
theorem dX10_run_129 : decode cX10_run 129 = .ok (.iconst (-1), 1) := by decide +kernel
theorem dX10_run_130 : decode cX10_run 130 = .ok (.goto 4, 3) := by decide +kernel
theorem dX10_run_133 : decode cX10_run 133 = .ok (.iload_n 3, 1) := by decide +kernel
theorem dX10_run_134 : decode cX10_run 134 = .ok (.ireturn, 1) := by decide +kernel
theorem dX10_sentence_0 : decode cX10_sentence 0 = .ok (.aload_n 0, 1) := by decide +kernel
theorem dX10_sentence_1 : decode cX10_sentence 1 = .ok (.iconst 0, 1) := by decide +kernel
theorem dX10_sentence_2 : decode cX10_sentence 2 = .ok (.putfield 96, 3) := by decide +kernel
theorem dX10_sentence_5 : decode cX10_sentence 5 = .ok (.aload_n 0, 1) := by decide +kernel
theorem dX10_sentence_6 : decode cX10_sentence 6 = .ok (.aload_n 0, 1) := by decide +kernel
theorem dX10_sentence_7 : decode cX10_sentence 7 = .ok (.getfield 61, 3) := by decide +kernel
theorem dX10_sentence_10 : decode cX10_sentence 10 = .ok (.iload_n 1, 1) := by decide +kernel
theorem dX10_sentence_11 : decode cX10_sentence 11 = .ok (.invokevirtual 380, 3) := by decide +kernel
theorem dX10_sentence_14 : decode cX10_sentence 14 = .ok (.ifCond .ne 5, 3) := by decide +kernel
theorem dX10_sentence_17 : decode cX10_sentence 17 = .ok (.iconst (-1), 1) := by decide +kernel
theorem dX10_sentence_18 : decode cX10_sentence 18 = .ok (.ireturn, 1) := by decide +kernel
theorem dX10_sentence_19 : decode cX10_sentence 19 = .ok (.aload_n 0, 1) := by decide +kernel
theorem dX10_sentence_20 : decode cX10_sentence 20 = .ok (.invokevirtual 384, 3) := by decide +kernel
theorem dX10_sentence_23 : decode cX10_sentence 23 = .ok (.aload_n 0, 1) := by decide +kernel
theorem dX10_sentence_24 : decode cX10_sentence 24 = .ok (.aload_n 0, 1) := by decide +kernel
theorem dX10_sentence_25 : decode cX10_sentence 25 = .ok (.getfield 61, 3) := by decide +kernel
theorem dX10_sentence_28 : decode cX10_sentence 28 = .ok (.iload_n 1, 1) := by decide +kernel
theorem dX10_sentence_29 : decode cX10_sentence 29 = .ok (.invokevirtual 387, 3) := by decide +kernel
theorem dX10_sentence_32 : decode cX10_sentence 32 = .ok (.aload_n 0, 1) := by decide +kernel
theorem dX10_sentence_33 : decode cX10_sentence 33 = .ok (.getfield 61, 3) := by decide +kernel
theorem dX10_sentence_36 : decode cX10_sentence 36 = .ok (.aload_n 0, 1) := by decide +kernel
theorem dX10_sentence_37 : decode cX10_sentence 37 = .ok (.getfield 49, 3) := by decide +kernel
theorem dX10_sentence_40 : decode cX10_sentence 40 = .ok (.iconst 3, 1) := by decide +kernel
theorem dX10_sentence_41 : decode cX10_sentence 41 = .ok (.iload_n 1, 1) := by decide +kernel
theorem dX10_sentence_42 : decode cX10_sentence 42 = .ok (.imul, 1) := by decide +kernel
theorem dX10_sentence_43 : decode cX10_sentence 43 = .ok (.iaload, 1) := by decide +kernel
theorem dX10_sentence_44 : decode cX10_sentence 44 = .ok (.aload_n 0, 1) := by decide +kernel
theorem dX10_sentence_45 : decode cX10_sentence 45 = .ok (.getfield 49, 3) := by decide +kernel
theorem dX10_sentence_48 : decode cX10_sentence 48 = .ok (.iconst 3, 1) := by decide +kernel
theorem dX10_sentence_49 : decode cX10_sentence 49 = .ok (.iload_n 1, 1) := by decide +kernel
theorem dX10_sentence_50 : decode cX10_sentence 50 = .ok (.imul, 1) := by decide +kernel
theorem dX10_sentence_51 : decode cX10_sentence 51 = .ok (.iconst 1, 1) := by decide +kernel
theorem dX10_sentence_52 : decode cX10_sentence 52 = .ok (.iadd, 1) := by decide +kernel
theorem dX10_sentence_53 : decode cX10_sentence 53 = .ok (.iaload, 1) := by decide +kernel
theorem dX10_sentence_54 : decode cX10_sentence 54 = .ok (.invokestatic 312, 3) := by decide +kernel
theorem dX10_sentence_57 : decode cX10_sentence 57 = .ok (.ireturn, 1) := by decide +kernel
theorem dX10_served_0 : decode cX10_served 0 = .ok (.aload_n 0, 1) := by decide +kernel
theorem dX10_served_1 : decode cX10_served 1 = .ok (.iconst 0, 1) := by decide +kernel
theorem dX10_served_2 : decode cX10_served 2 = .ok (.putfield 96, 3) := by decide +kernel
theorem dX10_served_5 : decode cX10_served 5 = .ok (.aload_n 0, 1) := by decide +kernel
theorem dX10_served_6 : decode cX10_served 6 = .ok (.getfield 294, 3) := by decide +kernel
theorem dX10_served_9 : decode cX10_served 9 = .ok (.ifCond .ne 5, 3) := by decide +kernel
theorem dX10_served_12 : decode cX10_served 12 = .ok (.iconst (-1), 1) := by decide +kernel
theorem dX10_served_13 : decode cX10_served 13 = .ok (.ireturn, 1) := by decide +kernel
theorem dX10_served_14 : decode cX10_served 14 = .ok (.aload_n 0, 1) := by decide +kernel
theorem dX10_served_15 : decode cX10_served 15 = .ok (.getfield 61, 3) := by decide +kernel
theorem dX10_served_18 : decode cX10_served 18 = .ok (.aload_n 0, 1) := by decide +kernel
theorem dX10_served_19 : decode cX10_served 19 = .ok (.getfield 64, 3) := by decide +kernel
theorem dX10_served_22 : decode cX10_served 22 = .ok (.invokestatic 429, 3) := by decide +kernel
theorem dX10_served_25 : decode cX10_served 25 = .ok (.iconst 0, 1) := by decide +kernel
theorem dX10_served_26 : decode cX10_served 26 = .ok (.istore_n 1, 1) := by decide +kernel
theorem dX10_served_27 : decode cX10_served 27 = .ok (.iload_n 1, 1) := by decide +kernel
theorem dX10_served_28 : decode cX10_served 28 = .ok (.bipush 99, 2) := by decide +kernel
theorem dX10_served_30 : decode cX10_served 30 = .ok (.if_icmp .gt 32, 3) := by decide +kernel
theorem dX10_served_33 : decode cX10_served 33 = .ok (.aload_n 0, 1) := by decide +kernel
theorem dX10_served_34 : decode cX10_served 34 = .ok (.aload_n 0, 1) := by decide +kernel
theorem dX10_served_35 : decode cX10_served 35 = .ok (.getfield 64, 3) := by decide +kernel
theorem dX10_served_38 : decode cX10_served 38 = .ok (.invokevirtual 360, 3) := by decide +kernel
theorem dX10_served_41 : decode cX10_served 41 = .ok (.ifCond .ne 5, 3) := by decide +kernel
theorem dX10_served_44 : decode cX10_served 44 = .ok (.iload_n 1, 1) := by decide +kernel
theorem dX10_served_45 : decode cX10_served 45 = .ok (.ireturn, 1) := by decide +kernel
theorem dX10_served_46 : decode cX10_served 46 = .ok (.aload_n 0, 1) := by decide +kernel
theorem dX10_served_47 : decode cX10_served 47 = .ok (.aload_n 0, 1) := by decide +kernel
theorem dX10_served_48 : decode cX10_served 48 = .ok (.getfield 64, 3) := by decide +kernel
theorem dX10_served_51 : decode cX10_served 51 = .ok (.iconst 0, 1) := by decide +kernel
theorem dX10_served_52 : decode cX10_served 52 = .ok (.invokevirtual 390, 3) := by decide +kernel
theorem dX10_served_55 : decode cX10_served 55 = .ok (.istore_n 2, 1) := by decide +kernel
theorem dX10_served_56 : decode cX10_served 56 = .ok (.iinc 1 1, 3) := by decide +kernel
theorem dX10_served_59 : decode cX10_served 59 = .ok (.goto (-32), 3) := by decide +kernel
theorem dX10_served_62 : decode cX10_served 62 = .ok (.iconst (-1), 1) := by decide +kernel
theorem dX10_served_63 : decode cX10_served 63 = .ok (.ireturn, 1) := by decide +kernel
theorem dX10_sin_0 : decode cX10_sin 0 = .ok (.aload_n 0, 1) := by decide +kernel
theorem dX10_sin_1 : decode cX10_sin 1 = .ok (.iconst 0, 1) := by decide +kernel
theorem dX10_sin_2 : decode cX10_sin 2 = .ok (.putfield 96, 3) := by decide +kernel
theorem dX10_sin_5 : decode cX10_sin 5 = .ok (.iload_n 1, 1) := by decide +kernel
theorem dX10_sin_6 : decode cX10_sin 6 = .ok (.i2l, 1) := by decide +kernel
theorem dX10_sin_7 : decode cX10_sin 7 = .ok (.lconst 0, 1) := by decide +kernel
theorem dX10_sin_8 : decode cX10_sin 8 = .ok (.ldc2_w 378, 3) := by decide +kernel
theorem dX10_sin_11 : decode cX10_sin 11 = .ok (.invokestatic 217, 3) := by decide +kernel
theorem dX10_sin_14 : decode cX10_sin 14 = .ok (.ifCond .eq 11, 3) := by decide +kernel
theorem dX10_sin_17 : decode cX10_sin 17 = .ok (.iload_n 1, 1) := by decide +kernel
theorem dX10_sin_18 : decode cX10_sin 18 = .ok (.aload_n 0, 1) := by decide +kernel
theorem dX10_sin_19 : decode cX10_sin 19 = .ok (.getfield 71, 3) := by decide +kernel
theorem dX10_sin_22 : decode cX10_sin 22 = .ok (.if_icmp .ne 5, 3) := by decide +kernel
theorem dX10_sin_25 : decode cX10_sin 25 = .ok (.iconst 0, 1) := by decide +kernel
theorem dX10_sin_26 : decode cX10_sin 26 = .ok (.ireturn, 1) := by decide +kernel
theorem dX10_sin_27 : decode cX10_sin 27 = .ok (.aload_n 0, 1) := by decide +kernel
theorem dX10_sin_28 : decode cX10_sin 28 = .ok (.iload_n 1, 1) := by decide +kernel
theorem dX10_sin_29 : decode cX10_sin 29 = .ok (.putfield 71, 3) := by decide +kernel
theorem dX10_sin_32 : decode cX10_sin 32 = .ok (.iconst 1, 1) := by decide +kernel
theorem dX10_sin_33 : decode cX10_sin 33 = .ok (.ireturn, 1) := by decide +kernel
theorem dX10_sooner_0 : decode cX10_sooner 0 = .ok (.aload_n 0, 1) := by decide +kernel
theorem dX10_sooner_1 : decode cX10_sooner 1 = .ok (.iconst 0, 1) := by decide +kernel
theorem dX10_sooner_2 : decode cX10_sooner 2 = .ok (.putfield 96, 3) := by decide +kernel
theorem dX10_sooner_5 : decode cX10_sooner 5 = .ok (.aload_n 0, 1) := by decide +kernel
theorem dX10_sooner_6 : decode cX10_sooner 6 = .ok (.getfield 294, 3) := by decide +kernel
theorem dX10_sooner_9 : decode cX10_sooner 9 = .ok (.ifCond .ne 5, 3) := by decide +kernel
theorem dX10_sooner_12 : decode cX10_sooner 12 = .ok (.iconst (-1), 1) := by decide +kernel
theorem dX10_sooner_13 : decode cX10_sooner 13 = .ok (.ireturn, 1) := by decide +kernel
theorem dX10_sooner_14 : decode cX10_sooner 14 = .ok (.iconst 0, 1) := by decide +kernel
theorem dX10_sooner_15 : decode cX10_sooner 15 = .ok (.istore_n 1, 1) := by decide +kernel
theorem dX10_sooner_16 : decode cX10_sooner 16 = .ok (.iconst 1, 1) := by decide +kernel
theorem dX10_sooner_17 : decode cX10_sooner 17 = .ok (.istore_n 2, 1) := by decide +kernel
theorem dX10_sooner_18 : decode cX10_sooner 18 = .ok (.iload_n 2, 1) := by decide +kernel
theorem dX10_sooner_19 : decode cX10_sooner 19 = .ok (.iconst 1, 1) := by decide +kernel
theorem dX10_sooner_20 : decode cX10_sooner 20 = .ok (.aload_n 0, 1) := by decide +kernel
theorem dX10_sooner_21 : decode cX10_sooner 21 = .ok (.getfield 294, 3) := by decide +kernel
theorem dX10_sooner_24 : decode cX10_sooner 24 = .ok (.ishl, 1) := by decide +kernel
theorem dX10_sooner_25 : decode cX10_sooner 25 = .ok (.if_icmp .ge 128, 3) := by decide +kernel
theorem dX10_sooner_28 : decode cX10_sooner 28 = .ok (.iload_n 2, 1) := by decide +kernel
theorem dX10_sooner_29 : decode cX10_sooner 29 = .ok (.invokestatic 442, 3) := by decide +kernel
theorem dX10_sooner_32 : decode cX10_sooner 32 = .ok (.istore_n 3, 1) := by decide +kernel
theorem dX10_sooner_33 : decode cX10_sooner 33 = .ok (.iload_n 3, 1) := by decide +kernel
theorem dX10_sooner_34 : decode cX10_sooner 34 = .ok (.iconst 3, 1) := by decide +kernel
theorem dX10_sooner_35 : decode cX10_sooner 35 = .ok (.if_icmp .eq 11, 3) := by decide +kernel
theorem dX10_sooner_38 : decode cX10_sooner 38 = .ok (.iload_n 3, 1) := by decide +kernel
theorem dX10_sooner_39 : decode cX10_sooner 39 = .ok (.iconst 5, 1) := by decide +kernel
theorem dX10_sooner_40 : decode cX10_sooner 40 = .ok (.if_icmp .eq 6, 3) := by decide +kernel
theorem dX10_sooner_43 : decode cX10_sooner 43 = .ok (.goto 104, 3) := by decide +kernel
theorem dX10_sooner_46 : decode cX10_sooner 46 = .ok (.iconst 0, 1) := by decide +kernel
theorem dX10_sooner_47 : decode cX10_sooner 47 = .ok (.istore 4, 2) := by decide +kernel
theorem dX10_sooner_49 : decode cX10_sooner 49 = .ok (.iconst 0, 1) := by decide +kernel
theorem dX10_sooner_50 : decode cX10_sooner 50 = .ok (.istore 5, 2) := by decide +kernel
theorem dX10_sooner_52 : decode cX10_sooner 52 = .ok (.iload 5, 2) := by decide +kernel
theorem dX10_sooner_54 : decode cX10_sooner 54 = .ok (.aload_n 0, 1) := by decide +kernel
theorem dX10_sooner_55 : decode cX10_sooner 55 = .ok (.getfield 294, 3) := by decide +kernel
theorem dX10_sooner_58 : decode cX10_sooner 58 = .ok (.if_icmp .ge 68, 3) := by decide +kernel
theorem dX10_sooner_61 : decode cX10_sooner 61 = .ok (.iload 5, 2) := by decide +kernel
theorem dX10_sooner_63 : decode cX10_sooner 63 = .ok (.iconst 1, 1) := by decide +kernel
theorem dX10_sooner_64 : decode cX10_sooner 64 = .ok (.iadd, 1) := by decide +kernel
theorem dX10_sooner_65 : decode cX10_sooner 65 = .ok (.istore 6, 2) := by decide +kernel
theorem dX10_sooner_67 : decode cX10_sooner 67 = .ok (.iload 6, 2) := by decide +kernel
theorem dX10_sooner_69 : decode cX10_sooner 69 = .ok (.aload_n 0, 1) := by decide +kernel
theorem dX10_sooner_70 : decode cX10_sooner 70 = .ok (.getfield 294, 3) := by decide +kernel
theorem dX10_sooner_73 : decode cX10_sooner 73 = .ok (.if_icmp .ge 47, 3) := by decide +kernel
theorem dX10_sooner_76 : decode cX10_sooner 76 = .ok (.iload 4, 2) := by decide +kernel
theorem dX10_sooner_78 : decode cX10_sooner 78 = .ok (.iload_n 2, 1) := by decide +kernel
theorem dX10_sooner_79 : decode cX10_sooner 79 = .ok (.iload 5, 2) := by decide +kernel
theorem dX10_sooner_81 : decode cX10_sooner 81 = .ok (.invokestatic 229, 3) := by decide +kernel
theorem dX10_sooner_84 : decode cX10_sooner 84 = .ok (.ifCond .eq 26, 3) := by decide +kernel
theorem dX10_sooner_87 : decode cX10_sooner 87 = .ok (.iload_n 2, 1) := by decide +kernel
theorem dX10_sooner_88 : decode cX10_sooner 88 = .ok (.iload 6, 2) := by decide +kernel
theorem dX10_sooner_90 : decode cX10_sooner 90 = .ok (.invokestatic 229, 3) := by decide +kernel
theorem dX10_sooner_93 : decode cX10_sooner 93 = .ok (.ifCond .eq 17, 3) := by decide +kernel
theorem dX10_sooner_96 : decode cX10_sooner 96 = .ok (.aload_n 0, 1) := by decide +kernel
theorem dX10_sooner_97 : decode cX10_sooner 97 = .ok (.getfield 61, 3) := by decide +kernel
theorem dX10_sooner_100 : decode cX10_sooner 100 = .ok (.iload 5, 2) := by decide +kernel
theorem dX10_sooner_102 : decode cX10_sooner 102 = .ok (.iload 6, 2) := by decide +kernel
theorem dX10_sooner_104 : decode cX10_sooner 104 = .ok (.invokestatic 312, 3) := by decide +kernel
theorem dX10_sooner_107 : decode cX10_sooner 107 = .ok (.goto 4, 3) := by decide +kernel
theorem dX10_sooner_110 : decode cX10_sooner 110 = .ok (.iconst 0, 1) := by decide +kernel
theorem dX10_sooner_111 : decode cX10_sooner 111 = .ok (.iadd, 1) := by decide +kernel
theorem dX10_sooner_112 : decode cX10_sooner 112 = .ok (.istore 4, 2) := by decide +kernel
theorem dX10_sooner_114 : decode cX10_sooner 114 = .ok (.iinc 6 1, 3) := by decide +kernel
theorem dX10_sooner_117 : decode cX10_sooner 117 = .ok (.goto (-50), 3) := by decide +kernel
theorem dX10_sooner_120 : decode cX10_sooner 120 = .ok (.iinc 5 1, 3) := by decide +kernel
theorem dX10_sooner_123 : decode cX10_sooner 123 = .ok (.goto (-71), 3) := by decide +kernel
theorem dX10_sooner_126 : decode cX10_sooner 126 = .ok (.iload_n 1, 1) := by decide +kernel
theorem dX10_sooner_127 : decode cX10_sooner 127 = .ok (.iload_n 3, 1) := by decide +kernel
theorem dX10_sooner_128 : decode cX10_sooner 128 = .ok (.iconst 3, 1) := by decide +kernel
theorem dX10_sooner_129 : decode cX10_sooner 129 = .ok (.if_icmp .ne 8, 3) := by decide +kernel
theorem dX10_sooner_132 : decode cX10_sooner 132 = .ok (.iload 4, 2) := by decide +kernel
theorem dX10_sooner_134 : decode cX10_sooner 134 = .ok (.goto 9, 3) := by decide +kernel
theorem dX10_sooner_137 : decode cX10_sooner 137 = .ok (.iload 4, 2) := by decide +kernel
theorem dX10_sooner_139 : decode cX10_sooner 139 = .ok (.iconst 1, 1) := by decide +kernel
theorem dX10_sooner_140 : decode cX10_sooner 140 = .ok (.iadd, 1) := by decide +kernel
theorem dX10_sooner_141 : decode cX10_sooner 141 = .ok (.iconst 2, 1) := by decide +kernel
theorem dX10_sooner_142 : decode cX10_sooner 142 = .ok (.idiv, 1) := by decide +kernel
theorem dX10_sooner_143 : decode cX10_sooner 143 = .ok (.invokestatic 332, 3) := by decide +kernel
theorem dX10_sooner_146 : decode cX10_sooner 146 = .ok (.istore_n 1, 1) := by decide +kernel
theorem dX10_sooner_147 : decode cX10_sooner 147 = .ok (.iinc 2 1, 3) := by decide +kernel
theorem dX10_sooner_150 : decode cX10_sooner 150 = .ok (.goto (-132), 3) := by decide +kernel
theorem dX10_sooner_153 : decode cX10_sooner 153 = .ok (.iconst 0, 1) := by decide +kernel
theorem dX10_sooner_154 : decode cX10_sooner 154 = .ok (.istore_n 2, 1) := by decide +kernel
theorem dX10_sooner_155 : decode cX10_sooner 155 = .ok (.iload_n 2, 1) := by decide +kernel
theorem dX10_sooner_156 : decode cX10_sooner 156 = .ok (.aload_n 0, 1) := by decide +kernel
theorem dX10_sooner_157 : decode cX10_sooner 157 = .ok (.getfield 294, 3) := by decide +kernel
theorem dX10_sooner_160 : decode cX10_sooner 160 = .ok (.if_icmp .ge 19, 3) := by decide +kernel
theorem dX10_sooner_163 : decode cX10_sooner 163 = .ok (.iload_n 1, 1) := by decide +kernel
theorem dX10_sooner_164 : decode cX10_sooner 164 = .ok (.aload_n 0, 1) := by decide +kernel
theorem dX10_sooner_165 : decode cX10_sooner 165 = .ok (.iload_n 2, 1) := by decide +kernel
theorem dX10_sooner_166 : decode cX10_sooner 166 = .ok (.invokevirtual 366, 3) := by decide +kernel
theorem dX10_sooner_169 : decode cX10_sooner 169 = .ok (.invokestatic 332, 3) := by decide +kernel
theorem dX10_sooner_172 : decode cX10_sooner 172 = .ok (.istore_n 1, 1) := by decide +kernel
theorem dX10_sooner_173 : decode cX10_sooner 173 = .ok (.iinc 2 1, 3) := by decide +kernel
theorem dX10_sooner_176 : decode cX10_sooner 176 = .ok (.goto (-21), 3) := by decide +kernel
theorem dX10_sooner_179 : decode cX10_sooner 179 = .ok (.iload_n 1, 1) := by decide +kernel
theorem dX10_sooner_180 : decode cX10_sooner 180 = .ok (.ireturn, 1) := by decide +kernel
theorem dX10_step_0 : decode cX10_step 0 = .ok (.aload_n 0, 1) := by decide +kernel
theorem dX10_step_1 : decode cX10_step 1 = .ok (.iconst 0, 1) := by decide +kernel
theorem dX10_step_2 : decode cX10_step 2 = .ok (.putfield 96, 3) := by decide +kernel
theorem dX10_step_5 : decode cX10_step 5 = .ok (.aload_n 0, 1) := by decide +kernel
theorem dX10_step_6 : decode cX10_step 6 = .ok (.iload_n 1, 1) := by decide +kernel
theorem dX10_step_7 : decode cX10_step 7 = .ok (.invokevirtual 425, 3) := by decide +kernel
theorem dX10_step_10 : decode cX10_step 10 = .ok (.ifCond .eq 51, 3) := by decide +kernel
theorem dX10_step_13 : decode cX10_step 13 = .ok (.iload_n 2, 1) := by decide +kernel
theorem dX10_step_14 : decode cX10_step 14 = .ok (.i2l, 1) := by decide +kernel
theorem dX10_step_15 : decode cX10_step 15 = .ok (.lconst 0, 1) := by decide +kernel
theorem dX10_step_16 : decode cX10_step 16 = .ok (.aload_n 0, 1) := by decide +kernel
theorem dX10_step_17 : decode cX10_step 17 = .ok (.getfield 58, 3) := by decide +kernel
theorem dX10_step_20 : decode cX10_step 20 = .ok (.iload_n 1, 1) := by decide +kernel
theorem dX10_step_21 : decode cX10_step 21 = .ok (.iaload, 1) := by decide +kernel
theorem dX10_step_22 : decode cX10_step 22 = .ok (.iconst 1, 1) := by decide +kernel
theorem dX10_step_23 : decode cX10_step 23 = .ok (.isub, 1) := by decide +kernel
theorem dX10_step_24 : decode cX10_step 24 = .ok (.i2l, 1) := by decide +kernel
theorem dX10_step_25 : decode cX10_step 25 = .ok (.invokestatic 217, 3) := by decide +kernel
theorem dX10_step_28 : decode cX10_step 28 = .ok (.ifCond .eq 33, 3) := by decide +kernel
theorem dX10_step_31 : decode cX10_step 31 = .ok (.iload_n 3, 1) := by decide +kernel
theorem dX10_step_32 : decode cX10_step 32 = .ok (.i2l, 1) := by decide +kernel
theorem dX10_step_33 : decode cX10_step 33 = .ok (.lconst 0, 1) := by decide +kernel
theorem dX10_step_34 : decode cX10_step 34 = .ok (.ldc2_w 275, 3) := by decide +kernel
theorem dX10_step_37 : decode cX10_step 37 = .ok (.invokestatic 217, 3) := by decide +kernel
theorem dX10_step_40 : decode cX10_step 40 = .ok (.ifCond .eq 21, 3) := by decide +kernel
theorem dX10_step_43 : decode cX10_step 43 = .ok (.aload_n 0, 1) := by decide +kernel
theorem dX10_step_44 : decode cX10_step 44 = .ok (.getfield 55, 3) := by decide +kernel
theorem dX10_step_47 : decode cX10_step 47 = .ok (.iconst 3, 1) := by decide +kernel
theorem dX10_step_48 : decode cX10_step 48 = .ok (.bipush 16, 2) := by decide +kernel
theorem dX10_step_50 : decode cX10_step 50 = .ok (.iload_n 1, 1) := by decide +kernel
theorem dX10_step_51 : decode cX10_step 51 = .ok (.imul, 1) := by decide +kernel
theorem dX10_step_52 : decode cX10_step 52 = .ok (.iload_n 2, 1) := by decide +kernel
theorem dX10_step_53 : decode cX10_step 53 = .ok (.iadd, 1) := by decide +kernel
theorem dX10_step_54 : decode cX10_step 54 = .ok (.imul, 1) := by decide +kernel
theorem dX10_step_55 : decode cX10_step 55 = .ok (.iload_n 3, 1) := by decide +kernel
theorem dX10_step_56 : decode cX10_step 56 = .ok (.iadd, 1) := by decide +kernel
theorem dX10_step_57 : decode cX10_step 57 = .ok (.iaload, 1) := by decide +kernel
theorem dX10_step_58 : decode cX10_step 58 = .ok (.goto 6, 3) := by decide +kernel
theorem dX10_step_61 : decode cX10_step 61 = .ok (.ldc_w 428, 3) := by decide +kernel
theorem dX10_step_64 : decode cX10_step 64 = .ok (.ireturn, 1) := by decide +kernel
theorem dX10_teach_0 : decode cX10_teach 0 = .ok (.aload_n 0, 1) := by decide +kernel
theorem dX10_teach_1 : decode cX10_teach 1 = .ok (.iconst 0, 1) := by decide +kernel
theorem dX10_teach_2 : decode cX10_teach 2 = .ok (.putfield 96, 3) := by decide +kernel
theorem dX10_teach_5 : decode cX10_teach 5 = .ok (.aload_n 0, 1) := by decide +kernel
theorem dX10_teach_6 : decode cX10_teach 6 = .ok (.iload_n 1, 1) := by decide +kernel
theorem dX10_teach_7 : decode cX10_teach 7 = .ok (.invokevirtual 309, 3) := by decide +kernel
theorem dX10_teach_10 : decode cX10_teach 10 = .ok (.ifCond .eq 30, 3) := by decide +kernel
theorem dX10_teach_13 : decode cX10_teach 13 = .ok (.aload_n 0, 1) := by decide +kernel
theorem dX10_teach_14 : decode cX10_teach 14 = .ok (.getfield 61, 3) := by decide +kernel
theorem dX10_teach_17 : decode cX10_teach 17 = .ok (.bipush 36, 2) := by decide +kernel
theorem dX10_teach_19 : decode cX10_teach 19 = .ok (.iconst 2, 1) := by decide +kernel
theorem dX10_teach_20 : decode cX10_teach 20 = .ok (.iload_n 1, 1) := by decide +kernel
theorem dX10_teach_21 : decode cX10_teach 21 = .ok (.imul, 1) := by decide +kernel
theorem dX10_teach_22 : decode cX10_teach 22 = .ok (.iadd, 1) := by decide +kernel
theorem dX10_teach_23 : decode cX10_teach 23 = .ok (.iconst 1, 1) := by decide +kernel
theorem dX10_teach_24 : decode cX10_teach 24 = .ok (.iadd, 1) := by decide +kernel
theorem dX10_teach_25 : decode cX10_teach 25 = .ok (.iaload, 1) := by decide +kernel
theorem dX10_teach_26 : decode cX10_teach 26 = .ok (.ifCond .eq 14, 3) := by decide +kernel
theorem dX10_teach_29 : decode cX10_teach 29 = .ok (.aload_n 0, 1) := by decide +kernel
theorem dX10_teach_30 : decode cX10_teach 30 = .ok (.getfield 61, 3) := by decide +kernel
theorem dX10_teach_33 : decode cX10_teach 33 = .ok (.bipush 49, 2) := by decide +kernel
theorem dX10_teach_35 : decode cX10_teach 35 = .ok (.iaload, 1) := by decide +kernel
theorem dX10_teach_36 : decode cX10_teach 36 = .ok (.iconst 3, 1) := by decide +kernel
theorem dX10_teach_37 : decode cX10_teach 37 = .ok (.if_icmp .ge 5, 3) := by decide +kernel
theorem dX10_teach_40 : decode cX10_teach 40 = .ok (.iconst (-1), 1) := by decide +kernel
theorem dX10_teach_41 : decode cX10_teach 41 = .ok (.ireturn, 1) := by decide +kernel
theorem dX10_teach_42 : decode cX10_teach 42 = .ok (.aload_n 0, 1) := by decide +kernel
theorem dX10_teach_43 : decode cX10_teach 43 = .ok (.invokevirtual 384, 3) := by decide +kernel
theorem dX10_teach_46 : decode cX10_teach 46 = .ok (.aload_n 0, 1) := by decide +kernel
theorem dX10_teach_47 : decode cX10_teach 47 = .ok (.getfield 61, 3) := by decide +kernel
theorem dX10_teach_50 : decode cX10_teach 50 = .ok (.bipush 49, 2) := by decide +kernel
theorem dX10_teach_52 : decode cX10_teach 52 = .ok (.dup2, 1) := by decide +kernel
theorem dX10_teach_53 : decode cX10_teach 53 = .ok (.iaload, 1) := by decide +kernel
theorem dX10_teach_54 : decode cX10_teach 54 = .ok (.iconst 3, 1) := by decide +kernel
theorem dX10_teach_55 : decode cX10_teach 55 = .ok (.isub, 1) := by decide +kernel
theorem dX10_teach_56 : decode cX10_teach 56 = .ok (.iastore, 1) := by decide +kernel
theorem dX10_teach_57 : decode cX10_teach 57 = .ok (.aload_n 0, 1) := by decide +kernel
theorem dX10_teach_58 : decode cX10_teach 58 = .ok (.getfield 61, 3) := by decide +kernel
theorem dX10_teach_61 : decode cX10_teach 61 = .ok (.bipush 36, 2) := by decide +kernel
theorem dX10_teach_63 : decode cX10_teach 63 = .ok (.iconst 2, 1) := by decide +kernel
theorem dX10_teach_64 : decode cX10_teach 64 = .ok (.iload_n 1, 1) := by decide +kernel
theorem dX10_teach_65 : decode cX10_teach 65 = .ok (.imul, 1) := by decide +kernel
theorem dX10_teach_66 : decode cX10_teach 66 = .ok (.iadd, 1) := by decide +kernel
theorem dX10_teach_67 : decode cX10_teach 67 = .ok (.iconst 1, 1) := by decide +kernel
theorem dX10_teach_68 : decode cX10_teach 68 = .ok (.iadd, 1) := by decide +kernel
theorem dX10_teach_69 : decode cX10_teach 69 = .ok (.dup2, 1) := by decide +kernel
theorem dX10_teach_70 : decode cX10_teach 70 = .ok (.iaload, 1) := by decide +kernel
theorem dX10_teach_71 : decode cX10_teach 71 = .ok (.iconst 1, 1) := by decide +kernel
theorem dX10_teach_72 : decode cX10_teach 72 = .ok (.isub, 1) := by decide +kernel
theorem dX10_teach_73 : decode cX10_teach 73 = .ok (.iastore, 1) := by decide +kernel
theorem dX10_teach_74 : decode cX10_teach 74 = .ok (.aload_n 0, 1) := by decide +kernel
theorem dX10_teach_75 : decode cX10_teach 75 = .ok (.getfield 61, 3) := by decide +kernel
theorem dX10_teach_78 : decode cX10_teach 78 = .ok (.bipush 36, 2) := by decide +kernel
theorem dX10_teach_80 : decode cX10_teach 80 = .ok (.iconst 2, 1) := by decide +kernel
theorem dX10_teach_81 : decode cX10_teach 81 = .ok (.iload_n 1, 1) := by decide +kernel
theorem dX10_teach_82 : decode cX10_teach 82 = .ok (.imul, 1) := by decide +kernel
theorem dX10_teach_83 : decode cX10_teach 83 = .ok (.iadd, 1) := by decide +kernel
theorem dX10_teach_84 : decode cX10_teach 84 = .ok (.iconst 1, 1) := by decide +kernel
theorem dX10_teach_85 : decode cX10_teach 85 = .ok (.iadd, 1) := by decide +kernel
theorem dX10_teach_86 : decode cX10_teach 86 = .ok (.iaload, 1) := by decide +kernel
theorem dX10_teach_87 : decode cX10_teach 87 = .ok (.ireturn, 1) := by decide +kernel
