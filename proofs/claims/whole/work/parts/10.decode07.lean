theorem dX10_text_0 : decode cX10_text 0 = .ok (.aload_n 0, 1) := by decide +kernel
theorem dX10_text_1 : decode cX10_text 1 = .ok (.iconst 0, 1) := by decide +kernel
theorem dX10_text_2 : decode cX10_text 2 = .ok (.putfield 96, 3) := by decide +kernel
theorem dX10_text_5 : decode cX10_text 5 = .ok (.iload_n 1, 1) := by decide +kernel
theorem dX10_text_6 : decode cX10_text 6 = .ok (.i2l, 1) := by decide +kernel
theorem dX10_text_7 : decode cX10_text 7 = .ok (.lconst 0, 1) := by decide +kernel
theorem dX10_text_8 : decode cX10_text 8 = .ok (.ldc2_w 275, 3) := by decide +kernel
theorem dX10_text_11 : decode cX10_text 11 = .ok (.invokestatic 217, 3) := by decide +kernel
theorem dX10_text_14 : decode cX10_text 14 = .ok (.ifCond .eq 38, 3) := by decide +kernel
theorem dX10_text_17 : decode cX10_text 17 = .ok (.iload_n 1, 1) := by decide +kernel
theorem dX10_text_18 : decode cX10_text 18 = .ok (.iconst 1, 1) := by decide +kernel
theorem dX10_text_19 : decode cX10_text 19 = .ok (.if_icmp .ne 11, 3) := by decide +kernel
theorem dX10_text_22 : decode cX10_text 22 = .ok (.aload_n 0, 1) := by decide +kernel
theorem dX10_text_23 : decode cX10_text 23 = .ok (.getfield 286, 3) := by decide +kernel
theorem dX10_text_26 : decode cX10_text 26 = .ok (.iconst 4, 1) := by decide +kernel
theorem dX10_text_27 : decode cX10_text 27 = .ok (.if_icmp .eq 25, 3) := by decide +kernel
theorem dX10_text_30 : decode cX10_text 30 = .ok (.iload_n 1, 1) := by decide +kernel
theorem dX10_text_31 : decode cX10_text 31 = .ok (.iconst 2, 1) := by decide +kernel
theorem dX10_text_32 : decode cX10_text 32 = .ok (.if_icmp .ne 11, 3) := by decide +kernel
theorem dX10_text_35 : decode cX10_text 35 = .ok (.aload_n 0, 1) := by decide +kernel
theorem dX10_text_36 : decode cX10_text 36 = .ok (.getfield 289, 3) := by decide +kernel
theorem dX10_text_39 : decode cX10_text 39 = .ok (.iconst 4, 1) := by decide +kernel
theorem dX10_text_40 : decode cX10_text 40 = .ok (.if_icmp .eq 12, 3) := by decide +kernel
theorem dX10_text_43 : decode cX10_text 43 = .ok (.aload_n 0, 1) := by decide +kernel
theorem dX10_text_44 : decode cX10_text 44 = .ok (.iload_n 1, 1) := by decide +kernel
theorem dX10_text_45 : decode cX10_text 45 = .ok (.invokevirtual 292, 3) := by decide +kernel
theorem dX10_text_48 : decode cX10_text 48 = .ok (.iconst (-1), 1) := by decide +kernel
theorem dX10_text_49 : decode cX10_text 49 = .ok (.if_icmp .eq 5, 3) := by decide +kernel
theorem dX10_text_52 : decode cX10_text 52 = .ok (.iconst (-1), 1) := by decide +kernel
theorem dX10_text_53 : decode cX10_text 53 = .ok (.ireturn, 1) := by decide +kernel
theorem dX10_text_54 : decode cX10_text 54 = .ok (.aload_n 0, 1) := by decide +kernel
theorem dX10_text_55 : decode cX10_text 55 = .ok (.getfield 109, 3) := by decide +kernel
theorem dX10_text_58 : decode cX10_text 58 = .ok (.istore_n 2, 1) := by decide +kernel
theorem dX10_text_59 : decode cX10_text 59 = .ok (.aload_n 0, 1) := by decide +kernel
theorem dX10_text_60 : decode cX10_text 60 = .ok (.iconst 0, 1) := by decide +kernel
theorem dX10_text_61 : decode cX10_text 61 = .ok (.putfield 109, 3) := by decide +kernel
theorem dX10_text_64 : decode cX10_text 64 = .ok (.iload_n 1, 1) := by decide +kernel
theorem dX10_text_65 : decode cX10_text 65 = .ok (.iconst 1, 1) := by decide +kernel
theorem dX10_text_66 : decode cX10_text 66 = .ok (.if_icmp .ne 64, 3) := by decide +kernel
theorem dX10_text_69 : decode cX10_text 69 = .ok (.iconst 0, 1) := by decide +kernel
theorem dX10_text_70 : decode cX10_text 70 = .ok (.istore_n 3, 1) := by decide +kernel
theorem dX10_text_71 : decode cX10_text 71 = .ok (.iload_n 3, 1) := by decide +kernel
theorem dX10_text_72 : decode cX10_text 72 = .ok (.iload_n 2, 1) := by decide +kernel
theorem dX10_text_73 : decode cX10_text 73 = .ok (.if_icmp .ge 30, 3) := by decide +kernel
theorem dX10_text_76 : decode cX10_text 76 = .ok (.aload_n 0, 1) := by decide +kernel
theorem dX10_text_77 : decode cX10_text 77 = .ok (.getfield 13, 3) := by decide +kernel
theorem dX10_text_80 : decode cX10_text 80 = .ok (.sipush 240, 3) := by decide +kernel
theorem dX10_text_83 : decode cX10_text 83 = .ok (.aload_n 0, 1) := by decide +kernel
theorem dX10_text_84 : decode cX10_text 84 = .ok (.getfield 286, 3) := by decide +kernel
theorem dX10_text_87 : decode cX10_text 87 = .ok (.imul, 1) := by decide +kernel
theorem dX10_text_88 : decode cX10_text 88 = .ok (.iload_n 3, 1) := by decide +kernel
theorem dX10_text_89 : decode cX10_text 89 = .ok (.iadd, 1) := by decide +kernel
theorem dX10_text_90 : decode cX10_text 90 = .ok (.aload_n 0, 1) := by decide +kernel
theorem dX10_text_91 : decode cX10_text 91 = .ok (.getfield 9, 3) := by decide +kernel
theorem dX10_text_94 : decode cX10_text 94 = .ok (.iload_n 3, 1) := by decide +kernel
theorem dX10_text_95 : decode cX10_text 95 = .ok (.baload, 1) := by decide +kernel
theorem dX10_text_96 : decode cX10_text 96 = .ok (.bastore, 1) := by decide +kernel
theorem dX10_text_97 : decode cX10_text 97 = .ok (.iinc 3 1, 3) := by decide +kernel
theorem dX10_text_100 : decode cX10_text 100 = .ok (.goto (-29), 3) := by decide +kernel
theorem dX10_text_103 : decode cX10_text 103 = .ok (.aload_n 0, 1) := by decide +kernel
theorem dX10_text_104 : decode cX10_text 104 = .ok (.getfield 16, 3) := by decide +kernel
theorem dX10_text_107 : decode cX10_text 107 = .ok (.aload_n 0, 1) := by decide +kernel
theorem dX10_text_108 : decode cX10_text 108 = .ok (.getfield 286, 3) := by decide +kernel
theorem dX10_text_111 : decode cX10_text 111 = .ok (.iload_n 2, 1) := by decide +kernel
theorem dX10_text_112 : decode cX10_text 112 = .ok (.iastore, 1) := by decide +kernel
theorem dX10_text_113 : decode cX10_text 113 = .ok (.aload_n 0, 1) := by decide +kernel
theorem dX10_text_114 : decode cX10_text 114 = .ok (.dup, 1) := by decide +kernel
theorem dX10_text_115 : decode cX10_text 115 = .ok (.getfield 286, 3) := by decide +kernel
theorem dX10_text_118 : decode cX10_text 118 = .ok (.iconst 1, 1) := by decide +kernel
theorem dX10_text_119 : decode cX10_text 119 = .ok (.iadd, 1) := by decide +kernel
theorem dX10_text_120 : decode cX10_text 120 = .ok (.putfield 286, 3) := by decide +kernel
theorem dX10_text_123 : decode cX10_text 123 = .ok (.aload_n 0, 1) := by decide +kernel
theorem dX10_text_124 : decode cX10_text 124 = .ok (.getfield 286, 3) := by decide +kernel
theorem dX10_text_127 : decode cX10_text 127 = .ok (.iconst 1, 1) := by decide +kernel
theorem dX10_text_128 : decode cX10_text 128 = .ok (.isub, 1) := by decide +kernel
theorem dX10_text_129 : decode cX10_text 129 = .ok (.ireturn, 1) := by decide +kernel
theorem dX10_text_130 : decode cX10_text 130 = .ok (.iload_n 1, 1) := by decide +kernel
theorem dX10_text_131 : decode cX10_text 131 = .ok (.iconst 2, 1) := by decide +kernel
theorem dX10_text_132 : decode cX10_text 132 = .ok (.if_icmp .ne 73, 3) := by decide +kernel
theorem dX10_text_135 : decode cX10_text 135 = .ok (.iconst 0, 1) := by decide +kernel
theorem dX10_text_136 : decode cX10_text 136 = .ok (.istore_n 3, 1) := by decide +kernel
theorem dX10_text_137 : decode cX10_text 137 = .ok (.iload_n 3, 1) := by decide +kernel
theorem dX10_text_138 : decode cX10_text 138 = .ok (.bipush 48, 2) := by decide +kernel
theorem dX10_text_140 : decode cX10_text 140 = .ok (.if_icmp .ge 33, 3) := by decide +kernel
theorem dX10_text_143 : decode cX10_text 143 = .ok (.aload_n 0, 1) := by decide +kernel
theorem dX10_text_144 : decode cX10_text 144 = .ok (.getfield 55, 3) := by decide +kernel
theorem dX10_text_147 : decode cX10_text 147 = .ok (.bipush 48, 2) := by decide +kernel
theorem dX10_text_149 : decode cX10_text 149 = .ok (.aload_n 0, 1) := by decide +kernel
theorem dX10_text_150 : decode cX10_text 150 = .ok (.getfield 289, 3) := by decide +kernel
theorem dX10_text_153 : decode cX10_text 153 = .ok (.imul, 1) := by decide +kernel
theorem dX10_text_154 : decode cX10_text 154 = .ok (.iload_n 3, 1) := by decide +kernel
theorem dX10_text_155 : decode cX10_text 155 = .ok (.iadd, 1) := by decide +kernel
theorem dX10_text_156 : decode cX10_text 156 = .ok (.aload_n 0, 1) := by decide +kernel
theorem dX10_text_157 : decode cX10_text 157 = .ok (.getfield 55, 3) := by decide +kernel
theorem dX10_text_160 : decode cX10_text 160 = .ok (.sipush 192, 3) := by decide +kernel
theorem dX10_text_163 : decode cX10_text 163 = .ok (.iload_n 3, 1) := by decide +kernel
theorem dX10_text_164 : decode cX10_text 164 = .ok (.iadd, 1) := by decide +kernel
theorem dX10_text_165 : decode cX10_text 165 = .ok (.iaload, 1) := by decide +kernel
theorem dX10_text_166 : decode cX10_text 166 = .ok (.iastore, 1) := by decide +kernel
theorem dX10_text_167 : decode cX10_text 167 = .ok (.iinc 3 1, 3) := by decide +kernel
theorem dX10_text_170 : decode cX10_text 170 = .ok (.goto (-33), 3) := by decide +kernel
theorem dX10_text_173 : decode cX10_text 173 = .ok (.aload_n 0, 1) := by decide +kernel
theorem dX10_text_174 : decode cX10_text 174 = .ok (.getfield 58, 3) := by decide +kernel
theorem dX10_text_177 : decode cX10_text 177 = .ok (.aload_n 0, 1) := by decide +kernel
theorem dX10_text_178 : decode cX10_text 178 = .ok (.getfield 289, 3) := by decide +kernel
theorem dX10_text_181 : decode cX10_text 181 = .ok (.aload_n 0, 1) := by decide +kernel
theorem dX10_text_182 : decode cX10_text 182 = .ok (.getfield 58, 3) := by decide +kernel
theorem dX10_text_185 : decode cX10_text 185 = .ok (.iconst 4, 1) := by decide +kernel
theorem dX10_text_186 : decode cX10_text 186 = .ok (.iaload, 1) := by decide +kernel
theorem dX10_text_187 : decode cX10_text 187 = .ok (.iastore, 1) := by decide +kernel
theorem dX10_text_188 : decode cX10_text 188 = .ok (.aload_n 0, 1) := by decide +kernel
theorem dX10_text_189 : decode cX10_text 189 = .ok (.dup, 1) := by decide +kernel
theorem dX10_text_190 : decode cX10_text 190 = .ok (.getfield 289, 3) := by decide +kernel
theorem dX10_text_193 : decode cX10_text 193 = .ok (.iconst 1, 1) := by decide +kernel
theorem dX10_text_194 : decode cX10_text 194 = .ok (.iadd, 1) := by decide +kernel
theorem dX10_text_195 : decode cX10_text 195 = .ok (.putfield 289, 3) := by decide +kernel
theorem dX10_text_198 : decode cX10_text 198 = .ok (.aload_n 0, 1) := by decide +kernel
theorem dX10_text_199 : decode cX10_text 199 = .ok (.getfield 289, 3) := by decide +kernel
theorem dX10_text_202 : decode cX10_text 202 = .ok (.iconst 1, 1) := by decide +kernel
theorem dX10_text_203 : decode cX10_text 203 = .ok (.isub, 1) := by decide +kernel
theorem dX10_text_204 : decode cX10_text 204 = .ok (.ireturn, 1) := by decide +kernel
theorem dX10_text_205 : decode cX10_text 205 = .ok (.aload_n 0, 1) := by decide +kernel
theorem dX10_text_206 : decode cX10_text 206 = .ok (.aload_n 0, 1) := by decide +kernel
theorem dX10_text_207 : decode cX10_text 207 = .ok (.getfield 245, 3) := by decide +kernel
theorem dX10_text_210 : decode cX10_text 210 = .ok (.putfield 294, 3) := by decide +kernel
theorem dX10_text_213 : decode cX10_text 213 = .ok (.aload_n 0, 1) := by decide +kernel
theorem dX10_text_214 : decode cX10_text 214 = .ok (.aload_n 0, 1) := by decide +kernel
theorem dX10_text_215 : decode cX10_text 215 = .ok (.getfield 248, 3) := by decide +kernel
theorem dX10_text_218 : decode cX10_text 218 = .ok (.putfield 297, 3) := by decide +kernel
theorem dX10_text_221 : decode cX10_text 221 = .ok (.iconst 0, 1) := by decide +kernel
theorem dX10_text_222 : decode cX10_text 222 = .ok (.istore_n 3, 1) := by decide +kernel
theorem dX10_text_223 : decode cX10_text 223 = .ok (.iload_n 3, 1) := by decide +kernel
theorem dX10_text_224 : decode cX10_text 224 = .ok (.iconst 2, 1) := by decide +kernel
theorem dX10_text_225 : decode cX10_text 225 = .ok (.if_icmp .ge 21, 3) := by decide +kernel
theorem dX10_text_228 : decode cX10_text 228 = .ok (.aload_n 0, 1) := by decide +kernel
theorem dX10_text_229 : decode cX10_text 229 = .ok (.getfield 37, 3) := by decide +kernel
theorem dX10_text_232 : decode cX10_text 232 = .ok (.iload_n 3, 1) := by decide +kernel
theorem dX10_text_233 : decode cX10_text 233 = .ok (.aload_n 0, 1) := by decide +kernel
theorem dX10_text_234 : decode cX10_text 234 = .ok (.getfield 40, 3) := by decide +kernel
theorem dX10_text_237 : decode cX10_text 237 = .ok (.iload_n 3, 1) := by decide +kernel
theorem dX10_text_238 : decode cX10_text 238 = .ok (.iaload, 1) := by decide +kernel
theorem dX10_text_239 : decode cX10_text 239 = .ok (.iastore, 1) := by decide +kernel
theorem dX10_text_240 : decode cX10_text 240 = .ok (.iinc 3 1, 3) := by decide +kernel
theorem dX10_text_243 : decode cX10_text 243 = .ok (.goto (-20), 3) := by decide +kernel
theorem dX10_text_246 : decode cX10_text 246 = .ok (.iconst 0, 1) := by decide +kernel
theorem dX10_text_247 : decode cX10_text 247 = .ok (.istore_n 3, 1) := by decide +kernel
theorem dX10_text_248 : decode cX10_text 248 = .ok (.iload_n 3, 1) := by decide +kernel
theorem dX10_text_249 : decode cX10_text 249 = .ok (.bipush 18, 2) := by decide +kernel
theorem dX10_text_251 : decode cX10_text 251 = .ok (.if_icmp .ge 21, 3) := by decide +kernel
theorem dX10_text_254 : decode cX10_text 254 = .ok (.aload_n 0, 1) := by decide +kernel
theorem dX10_text_255 : decode cX10_text 255 = .ok (.getfield 43, 3) := by decide +kernel
theorem dX10_text_258 : decode cX10_text 258 = .ok (.iload_n 3, 1) := by decide +kernel
theorem dX10_text_259 : decode cX10_text 259 = .ok (.aload_n 0, 1) := by decide +kernel
theorem dX10_text_260 : decode cX10_text 260 = .ok (.getfield 46, 3) := by decide +kernel
theorem dX10_text_263 : decode cX10_text 263 = .ok (.iload_n 3, 1) := by decide +kernel
theorem dX10_text_264 : decode cX10_text 264 = .ok (.iaload, 1) := by decide +kernel
theorem dX10_text_265 : decode cX10_text 265 = .ok (.iastore, 1) := by decide +kernel
theorem dX10_text_266 : decode cX10_text 266 = .ok (.iinc 3 1, 3) := by decide +kernel
theorem dX10_text_269 : decode cX10_text 269 = .ok (.goto (-21), 3) := by decide +kernel
theorem dX10_text_272 : decode cX10_text 272 = .ok (.iconst 0, 1) := by decide +kernel
theorem dX10_text_273 : decode cX10_text 273 = .ok (.istore_n 3, 1) := by decide +kernel
theorem dX10_text_274 : decode cX10_text 274 = .ok (.iload_n 3, 1) := by decide +kernel
theorem dX10_text_275 : decode cX10_text 275 = .ok (.bipush 24, 2) := by decide +kernel
theorem dX10_text_277 : decode cX10_text 277 = .ok (.if_icmp .ge 21, 3) := by decide +kernel
theorem dX10_text_280 : decode cX10_text 280 = .ok (.aload_n 0, 1) := by decide +kernel
theorem dX10_text_281 : decode cX10_text 281 = .ok (.getfield 49, 3) := by decide +kernel
theorem dX10_text_284 : decode cX10_text 284 = .ok (.iload_n 3, 1) := by decide +kernel
theorem dX10_text_285 : decode cX10_text 285 = .ok (.aload_n 0, 1) := by decide +kernel
theorem dX10_text_286 : decode cX10_text 286 = .ok (.getfield 52, 3) := by decide +kernel
theorem dX10_text_289 : decode cX10_text 289 = .ok (.iload_n 3, 1) := by decide +kernel
theorem dX10_text_290 : decode cX10_text 290 = .ok (.iaload, 1) := by decide +kernel
theorem dX10_text_291 : decode cX10_text 291 = .ok (.iastore, 1) := by decide +kernel
theorem dX10_text_292 : decode cX10_text 292 = .ok (.iinc 3 1, 3) := by decide +kernel
theorem dX10_text_295 : decode cX10_text 295 = .ok (.goto (-21), 3) := by decide +kernel
theorem dX10_text_298 : decode cX10_text 298 = .ok (.iconst 0, 1) := by decide +kernel
theorem dX10_text_299 : decode cX10_text 299 = .ok (.istore_n 3, 1) := by decide +kernel
theorem dX10_text_300 : decode cX10_text 300 = .ok (.iload_n 3, 1) := by decide +kernel
theorem dX10_text_301 : decode cX10_text 301 = .ok (.sipush 233, 3) := by decide +kernel
theorem dX10_text_304 : decode cX10_text 304 = .ok (.if_icmp .ge 16, 3) := by decide +kernel
theorem dX10_text_307 : decode cX10_text 307 = .ok (.aload_n 0, 1) := by decide +kernel
theorem dX10_text_308 : decode cX10_text 308 = .ok (.getfield 61, 3) := by decide +kernel
theorem dX10_text_311 : decode cX10_text 311 = .ok (.iload_n 3, 1) := by decide +kernel
theorem dX10_text_312 : decode cX10_text 312 = .ok (.iconst 0, 1) := by decide +kernel
theorem dX10_text_313 : decode cX10_text 313 = .ok (.iastore, 1) := by decide +kernel
theorem dX10_text_314 : decode cX10_text 314 = .ok (.iinc 3 1, 3) := by decide +kernel
theorem dX10_text_317 : decode cX10_text 317 = .ok (.goto (-17), 3) := by decide +kernel
theorem dX10_text_320 : decode cX10_text 320 = .ok (.iconst 0, 1) := by decide +kernel
theorem dX10_text_321 : decode cX10_text 321 = .ok (.istore_n 3, 1) := by decide +kernel
theorem dX10_text_322 : decode cX10_text 322 = .ok (.iload_n 3, 1) := by decide +kernel
theorem dX10_text_323 : decode cX10_text 323 = .ok (.aload_n 0, 1) := by decide +kernel
theorem dX10_text_324 : decode cX10_text 324 = .ok (.getfield 294, 3) := by decide +kernel
theorem dX10_text_327 : decode cX10_text 327 = .ok (.if_icmp .ge 53, 3) := by decide +kernel
theorem dX10_text_330 : decode cX10_text 330 = .ok (.aload_n 0, 1) := by decide +kernel
theorem dX10_text_331 : decode cX10_text 331 = .ok (.getfield 61, 3) := by decide +kernel
theorem dX10_text_334 : decode cX10_text 334 = .ok (.bipush 36, 2) := by decide +kernel
theorem dX10_text_336 : decode cX10_text 336 = .ok (.iconst 2, 1) := by decide +kernel
theorem dX10_text_337 : decode cX10_text 337 = .ok (.iload_n 3, 1) := by decide +kernel
theorem dX10_text_338 : decode cX10_text 338 = .ok (.imul, 1) := by decide +kernel
theorem dX10_text_339 : decode cX10_text 339 = .ok (.iadd, 1) := by decide +kernel
theorem dX10_text_340 : decode cX10_text 340 = .ok (.iconst 0, 1) := by decide +kernel
theorem dX10_text_341 : decode cX10_text 341 = .ok (.iadd, 1) := by decide +kernel
theorem dX10_text_342 : decode cX10_text 342 = .ok (.aload_n 0, 1) := by decide +kernel
theorem dX10_text_343 : decode cX10_text 343 = .ok (.getfield 43, 3) := by decide +kernel
theorem dX10_text_346 : decode cX10_text 346 = .ok (.iconst 3, 1) := by decide +kernel
theorem dX10_text_347 : decode cX10_text 347 = .ok (.iload_n 3, 1) := by decide +kernel
theorem dX10_text_348 : decode cX10_text 348 = .ok (.imul, 1) := by decide +kernel
theorem dX10_text_349 : decode cX10_text 349 = .ok (.iaload, 1) := by decide +kernel
theorem dX10_text_350 : decode cX10_text 350 = .ok (.iastore, 1) := by decide +kernel
theorem dX10_text_351 : decode cX10_text 351 = .ok (.aload_n 0, 1) := by decide +kernel
theorem dX10_text_352 : decode cX10_text 352 = .ok (.getfield 61, 3) := by decide +kernel
theorem dX10_text_355 : decode cX10_text 355 = .ok (.bipush 36, 2) := by decide +kernel
theorem dX10_text_357 : decode cX10_text 357 = .ok (.iconst 2, 1) := by decide +kernel
theorem dX10_text_358 : decode cX10_text 358 = .ok (.iload_n 3, 1) := by decide +kernel
theorem dX10_text_359 : decode cX10_text 359 = .ok (.imul, 1) := by decide +kernel
theorem dX10_text_360 : decode cX10_text 360 = .ok (.iadd, 1) := by decide +kernel
theorem dX10_text_361 : decode cX10_text 361 = .ok (.iconst 1, 1) := by decide +kernel
theorem dX10_text_362 : decode cX10_text 362 = .ok (.iadd, 1) := by decide +kernel
theorem dX10_text_363 : decode cX10_text 363 = .ok (.aload_n 0, 1) := by decide +kernel
theorem dX10_text_364 : decode cX10_text 364 = .ok (.getfield 43, 3) := by decide +kernel
theorem dX10_text_367 : decode cX10_text 367 = .ok (.iconst 3, 1) := by decide +kernel
theorem dX10_text_368 : decode cX10_text 368 = .ok (.iload_n 3, 1) := by decide +kernel
theorem dX10_text_369 : decode cX10_text 369 = .ok (.imul, 1) := by decide +kernel
theorem dX10_text_370 : decode cX10_text 370 = .ok (.iconst 1, 1) := by decide +kernel
theorem dX10_text_371 : decode cX10_text 371 = .ok (.iadd, 1) := by decide +kernel
theorem dX10_text_372 : decode cX10_text 372 = .ok (.iaload, 1) := by decide +kernel
theorem dX10_text_373 : decode cX10_text 373 = .ok (.iastore, 1) := by decide +kernel
theorem dX10_text_374 : decode cX10_text 374 = .ok (.iinc 3 1, 3) := by decide +kernel
theorem dX10_text_377 : decode cX10_text 377 = .ok (.goto (-55), 3) := by decide +kernel
theorem dX10_text_380 : decode cX10_text 380 = .ok (.aload_n 0, 1) := by decide +kernel
theorem dX10_text_381 : decode cX10_text 381 = .ok (.getfield 61, 3) := by decide +kernel
theorem dX10_text_384 : decode cX10_text 384 = .ok (.bipush 49, 2) := by decide +kernel
theorem dX10_text_386 : decode cX10_text 386 = .ok (.aload_n 0, 1) := by decide +kernel
theorem dX10_text_387 : decode cX10_text 387 = .ok (.getfield 37, 3) := by decide +kernel
theorem dX10_text_390 : decode cX10_text 390 = .ok (.iconst 1, 1) := by decide +kernel
theorem dX10_text_391 : decode cX10_text 391 = .ok (.iaload, 1) := by decide +kernel
theorem dX10_text_392 : decode cX10_text 392 = .ok (.iastore, 1) := by decide +kernel
theorem dX10_text_393 : decode cX10_text 393 = .ok (.aload_n 0, 1) := by decide +kernel
theorem dX10_text_394 : decode cX10_text 394 = .ok (.iconst 0, 1) := by decide +kernel
theorem dX10_text_395 : decode cX10_text 395 = .ok (.putfield 300, 3) := by decide +kernel
theorem dX10_text_398 : decode cX10_text 398 = .ok (.aload_n 0, 1) := by decide +kernel
theorem dX10_text_399 : decode cX10_text 399 = .ok (.iconst 0, 1) := by decide +kernel
theorem dX10_text_400 : decode cX10_text 400 = .ok (.putfield 303, 3) := by decide +kernel
theorem dX10_text_403 : decode cX10_text 403 = .ok (.aload_n 0, 1) := by decide +kernel
theorem dX10_text_404 : decode cX10_text 404 = .ok (.iconst 0, 1) := by decide +kernel
theorem dX10_text_405 : decode cX10_text 405 = .ok (.putfield 306, 3) := by decide +kernel
theorem dX10_text_408 : decode cX10_text 408 = .ok (.aload_n 0, 1) := by decide +kernel
theorem dX10_text_409 : decode cX10_text 409 = .ok (.getfield 294, 3) := by decide +kernel
theorem dX10_text_412 : decode cX10_text 412 = .ok (.ireturn, 1) := by decide +kernel
theorem dX10_thrown_0 : decode cX10_thrown 0 = .ok (.aload_n 0, 1) := by decide +kernel
theorem dX10_thrown_1 : decode cX10_thrown 1 = .ok (.getfield 96, 3) := by decide +kernel
theorem dX10_thrown_4 : decode cX10_thrown 4 = .ok (.ireturn, 1) := by decide +kernel
theorem dX10_tonight_0 : decode cX10_tonight 0 = .ok (.aload_n 0, 1) := by decide +kernel
theorem dX10_tonight_1 : decode cX10_tonight 1 = .ok (.iconst 0, 1) := by decide +kernel
theorem dX10_tonight_2 : decode cX10_tonight 2 = .ok (.putfield 96, 3) := by decide +kernel
theorem dX10_tonight_5 : decode cX10_tonight 5 = .ok (.aload_n 0, 1) := by decide +kernel
theorem dX10_tonight_6 : decode cX10_tonight 6 = .ok (.getfield 294, 3) := by decide +kernel
theorem dX10_tonight_9 : decode cX10_tonight 9 = .ok (.ifCond .ne 5, 3) := by decide +kernel
theorem dX10_tonight_12 : decode cX10_tonight 12 = .ok (.iconst (-1), 1) := by decide +kernel
theorem dX10_tonight_13 : decode cX10_tonight 13 = .ok (.ireturn, 1) := by decide +kernel
theorem dX10_tonight_14 : decode cX10_tonight 14 = .ok (.aload_n 0, 1) := by decide +kernel
theorem dX10_tonight_15 : decode cX10_tonight 15 = .ok (.aload_n 0, 1) := by decide +kernel
theorem dX10_tonight_16 : decode cX10_tonight 16 = .ok (.getfield 61, 3) := by decide +kernel
theorem dX10_tonight_19 : decode cX10_tonight 19 = .ok (.iconst 0, 1) := by decide +kernel
theorem dX10_tonight_20 : decode cX10_tonight 20 = .ok (.invokevirtual 350, 3) := by decide +kernel
theorem dX10_tonight_23 : decode cX10_tonight 23 = .ok (.aload_n 0, 1) := by decide +kernel
theorem dX10_tonight_24 : decode cX10_tonight 24 = .ok (.invokevirtual 439, 3) := by decide +kernel
theorem dX10_tonight_27 : decode cX10_tonight 27 = .ok (.ireturn, 1) := by decide +kernel
theorem dX10_undo_0 : decode cX10_undo 0 = .ok (.aload_n 0, 1) := by decide +kernel
theorem dX10_undo_1 : decode cX10_undo 1 = .ok (.iconst 0, 1) := by decide +kernel
theorem dX10_undo_2 : decode cX10_undo 2 = .ok (.putfield 96, 3) := by decide +kernel
theorem dX10_undo_5 : decode cX10_undo 5 = .ok (.aload_n 0, 1) := by decide +kernel
theorem dX10_undo_6 : decode cX10_undo 6 = .ok (.getfield 303, 3) := by decide +kernel
theorem dX10_undo_9 : decode cX10_undo 9 = .ok (.ifCond .ne 5, 3) := by decide +kernel
theorem dX10_undo_12 : decode cX10_undo 12 = .ok (.iconst (-1), 1) := by decide +kernel
theorem dX10_undo_13 : decode cX10_undo 13 = .ok (.ireturn, 1) := by decide +kernel
theorem dX10_undo_14 : decode cX10_undo 14 = .ok (.aload_n 0, 1) := by decide +kernel
theorem dX10_undo_15 : decode cX10_undo 15 = .ok (.dup, 1) := by decide +kernel
theorem dX10_undo_16 : decode cX10_undo 16 = .ok (.getfield 303, 3) := by decide +kernel
theorem dX10_undo_19 : decode cX10_undo 19 = .ok (.iconst 1, 1) := by decide +kernel
theorem dX10_undo_20 : decode cX10_undo 20 = .ok (.isub, 1) := by decide +kernel
theorem dX10_undo_21 : decode cX10_undo 21 = .ok (.putfield 303, 3) := by decide +kernel
theorem dX10_undo_24 : decode cX10_undo 24 = .ok (.iconst 0, 1) := by decide +kernel
theorem dX10_undo_25 : decode cX10_undo 25 = .ok (.istore_n 1, 1) := by decide +kernel
theorem dX10_undo_26 : decode cX10_undo 26 = .ok (.iload_n 1, 1) := by decide +kernel
theorem dX10_undo_27 : decode cX10_undo 27 = .ok (.sipush 233, 3) := by decide +kernel
theorem dX10_undo_30 : decode cX10_undo 30 = .ok (.if_icmp .ge 30, 3) := by decide +kernel
theorem dX10_undo_33 : decode cX10_undo 33 = .ok (.aload_n 0, 1) := by decide +kernel
theorem dX10_undo_34 : decode cX10_undo 34 = .ok (.getfield 61, 3) := by decide +kernel
theorem dX10_undo_37 : decode cX10_undo 37 = .ok (.iload_n 1, 1) := by decide +kernel
theorem dX10_undo_38 : decode cX10_undo 38 = .ok (.aload_n 0, 1) := by decide +kernel
theorem dX10_undo_39 : decode cX10_undo 39 = .ok (.getfield 84, 3) := by decide +kernel
theorem dX10_undo_42 : decode cX10_undo 42 = .ok (.sipush 233, 3) := by decide +kernel
theorem dX10_undo_45 : decode cX10_undo 45 = .ok (.aload_n 0, 1) := by decide +kernel
theorem dX10_undo_46 : decode cX10_undo 46 = .ok (.getfield 303, 3) := by decide +kernel
theorem dX10_undo_49 : decode cX10_undo 49 = .ok (.imul, 1) := by decide +kernel
theorem dX10_undo_50 : decode cX10_undo 50 = .ok (.iload_n 1, 1) := by decide +kernel
theorem dX10_undo_51 : decode cX10_undo 51 = .ok (.iadd, 1) := by decide +kernel
theorem dX10_undo_52 : decode cX10_undo 52 = .ok (.iaload, 1) := by decide +kernel
theorem dX10_undo_53 : decode cX10_undo 53 = .ok (.iastore, 1) := by decide +kernel
theorem dX10_undo_54 : decode cX10_undo 54 = .ok (.iinc 1 1, 3) := by decide +kernel
theorem dX10_undo_57 : decode cX10_undo 57 = .ok (.goto (-31), 3) := by decide +kernel
theorem dX10_undo_60 : decode cX10_undo 60 = .ok (.aload_n 0, 1) := by decide +kernel
theorem dX10_undo_61 : decode cX10_undo 61 = .ok (.getfield 303, 3) := by decide +kernel
theorem dX10_undo_64 : decode cX10_undo 64 = .ok (.ireturn, 1) := by decide +kernel
theorem dX10_wrong_0 : decode cX10_wrong 0 = .ok (.aload_n 0, 1) := by decide +kernel
theorem dX10_wrong_1 : decode cX10_wrong 1 = .ok (.iconst 0, 1) := by decide +kernel
theorem dX10_wrong_2 : decode cX10_wrong 2 = .ok (.putfield 96, 3) := by decide +kernel
theorem dX10_wrong_5 : decode cX10_wrong 5 = .ok (.aload_n 0, 1) := by decide +kernel
theorem dX10_wrong_6 : decode cX10_wrong 6 = .ok (.iload_n 1, 1) := by decide +kernel
theorem dX10_wrong_7 : decode cX10_wrong 7 = .ok (.invokevirtual 369, 3) := by decide +kernel
theorem dX10_wrong_10 : decode cX10_wrong 10 = .ok (.ifCond .eq 15, 3) := by decide +kernel
theorem dX10_wrong_13 : decode cX10_wrong 13 = .ok (.iload_n 2, 1) := by decide +kernel
theorem dX10_wrong_14 : decode cX10_wrong 14 = .ok (.i2l, 1) := by decide +kernel
theorem dX10_wrong_15 : decode cX10_wrong 15 = .ok (.lconst 0, 1) := by decide +kernel
theorem dX10_wrong_16 : decode cX10_wrong 16 = .ok (.ldc2_w 372, 3) := by decide +kernel
theorem dX10_wrong_19 : decode cX10_wrong 19 = .ok (.invokestatic 217, 3) := by decide +kernel
theorem dX10_wrong_22 : decode cX10_wrong 22 = .ok (.ifCond .ne 5, 3) := by decide +kernel
theorem dX10_wrong_25 : decode cX10_wrong 25 = .ok (.iconst (-1), 1) := by decide +kernel
theorem dX10_wrong_26 : decode cX10_wrong 26 = .ok (.ireturn, 1) := by decide +kernel
theorem dX10_wrong_27 : decode cX10_wrong 27 = .ok (.iload_n 2, 1) := by decide +kernel
theorem dX10_wrong_28 : decode cX10_wrong 28 = .ok (.iconst 3, 1) := by decide +kernel
theorem dX10_wrong_29 : decode cX10_wrong 29 = .ok (.if_icmp .ge 14, 3) := by decide +kernel
theorem dX10_wrong_32 : decode cX10_wrong 32 = .ok (.aload_n 0, 1) := by decide +kernel
theorem dX10_wrong_33 : decode cX10_wrong 33 = .ok (.getfield 49, 3) := by decide +kernel
theorem dX10_wrong_36 : decode cX10_wrong 36 = .ok (.iconst 3, 1) := by decide +kernel
theorem dX10_wrong_37 : decode cX10_wrong 37 = .ok (.iload_n 1, 1) := by decide +kernel
theorem dX10_wrong_38 : decode cX10_wrong 38 = .ok (.imul, 1) := by decide +kernel
theorem dX10_wrong_39 : decode cX10_wrong 39 = .ok (.iload_n 2, 1) := by decide +kernel
theorem dX10_wrong_40 : decode cX10_wrong 40 = .ok (.iadd, 1) := by decide +kernel
theorem dX10_wrong_41 : decode cX10_wrong 41 = .ok (.iaload, 1) := by decide +kernel
theorem dX10_wrong_42 : decode cX10_wrong 42 = .ok (.ireturn, 1) := by decide +kernel
theorem dX10_wrong_43 : decode cX10_wrong 43 = .ok (.iload_n 2, 1) := by decide +kernel
theorem dX10_wrong_44 : decode cX10_wrong 44 = .ok (.iconst 3, 1) := by decide +kernel
theorem dX10_wrong_45 : decode cX10_wrong 45 = .ok (.if_icmp .ne 17, 3) := by decide +kernel
theorem dX10_wrong_48 : decode cX10_wrong 48 = .ok (.aload_n 0, 1) := by decide +kernel
theorem dX10_wrong_49 : decode cX10_wrong 49 = .ok (.getfield 61, 3) := by decide +kernel
theorem dX10_wrong_52 : decode cX10_wrong 52 = .ok (.bipush 48, 2) := by decide +kernel
theorem dX10_wrong_54 : decode cX10_wrong 54 = .ok (.iaload, 1) := by decide +kernel
theorem dX10_wrong_55 : decode cX10_wrong 55 = .ok (.iload_n 1, 1) := by decide +kernel
theorem dX10_wrong_56 : decode cX10_wrong 56 = .ok (.ishr, 1) := by decide +kernel
theorem dX10_wrong_57 : decode cX10_wrong 57 = .ok (.iconst 1, 1) := by decide +kernel
theorem dX10_wrong_58 : decode cX10_wrong 58 = .ok (.iand, 1) := by decide +kernel
theorem dX10_wrong_59 : decode cX10_wrong 59 = .ok (.goto 39, 3) := by decide +kernel
theorem dX10_wrong_62 : decode cX10_wrong 62 = .ok (.aload_n 0, 1) := by decide +kernel
theorem dX10_wrong_63 : decode cX10_wrong 63 = .ok (.aload_n 0, 1) := by decide +kernel
theorem dX10_wrong_64 : decode cX10_wrong 64 = .ok (.getfield 61, 3) := by decide +kernel
theorem dX10_wrong_67 : decode cX10_wrong 67 = .ok (.aload_n 0, 1) := by decide +kernel
theorem dX10_wrong_68 : decode cX10_wrong 68 = .ok (.getfield 49, 3) := by decide +kernel
theorem dX10_wrong_71 : decode cX10_wrong 71 = .ok (.iconst 3, 1) := by decide +kernel
theorem dX10_wrong_72 : decode cX10_wrong 72 = .ok (.iload_n 1, 1) := by decide +kernel
theorem dX10_wrong_73 : decode cX10_wrong 73 = .ok (.imul, 1) := by decide +kernel
theorem dX10_wrong_74 : decode cX10_wrong 74 = .ok (.iaload, 1) := by decide +kernel
theorem dX10_wrong_75 : decode cX10_wrong 75 = .ok (.aload_n 0, 1) := by decide +kernel
theorem dX10_wrong_76 : decode cX10_wrong 76 = .ok (.getfield 49, 3) := by decide +kernel
theorem dX10_wrong_79 : decode cX10_wrong 79 = .ok (.iconst 3, 1) := by decide +kernel
theorem dX10_wrong_80 : decode cX10_wrong 80 = .ok (.iload_n 1, 1) := by decide +kernel
theorem dX10_wrong_81 : decode cX10_wrong 81 = .ok (.imul, 1) := by decide +kernel
theorem dX10_wrong_82 : decode cX10_wrong 82 = .ok (.iconst 1, 1) := by decide +kernel
theorem dX10_wrong_83 : decode cX10_wrong 83 = .ok (.iadd, 1) := by decide +kernel
theorem dX10_wrong_84 : decode cX10_wrong 84 = .ok (.iaload, 1) := by decide +kernel
theorem dX10_wrong_85 : decode cX10_wrong 85 = .ok (.aload_n 0, 1) := by decide +kernel
theorem dX10_wrong_86 : decode cX10_wrong 86 = .ok (.getfield 49, 3) := by decide +kernel
theorem dX10_wrong_89 : decode cX10_wrong 89 = .ok (.iconst 3, 1) := by decide +kernel
theorem dX10_wrong_90 : decode cX10_wrong 90 = .ok (.iload_n 1, 1) := by decide +kernel
theorem dX10_wrong_91 : decode cX10_wrong 91 = .ok (.imul, 1) := by decide +kernel
theorem dX10_wrong_92 : decode cX10_wrong 92 = .ok (.iconst 2, 1) := by decide +kernel
theorem dX10_wrong_93 : decode cX10_wrong 93 = .ok (.iadd, 1) := by decide +kernel
theorem dX10_wrong_94 : decode cX10_wrong 94 = .ok (.iaload, 1) := by decide +kernel
theorem dX10_wrong_95 : decode cX10_wrong 95 = .ok (.invokevirtual 374, 3) := by decide +kernel
theorem dX10_wrong_98 : decode cX10_wrong 98 = .ok (.ireturn, 1) := by decide +kernel
theorem dX10_years_0 : decode cX10_years 0 = .ok (.aload_n 0, 1) := by decide +kernel
theorem dX10_years_1 : decode cX10_years 1 = .ok (.iconst 0, 1) := by decide +kernel
theorem dX10_years_2 : decode cX10_years 2 = .ok (.putfield 96, 3) := by decide +kernel
theorem dX10_years_5 : decode cX10_years 5 = .ok (.aload_n 0, 1) := by decide +kernel
theorem dX10_years_6 : decode cX10_years 6 = .ok (.getfield 294, 3) := by decide +kernel
theorem dX10_years_9 : decode cX10_years 9 = .ok (.ifCond .eq 30, 3) := by decide +kernel
theorem dX10_years_12 : decode cX10_years 12 = .ok (.iload_n 1, 1) := by decide +kernel
theorem dX10_years_13 : decode cX10_years 13 = .ok (.i2l, 1) := by decide +kernel
theorem dX10_years_14 : decode cX10_years 14 = .ok (.lconst 1, 1) := by decide +kernel
theorem dX10_years_15 : decode cX10_years 15 = .ok (.ldc2_w 420, 3) := by decide +kernel
theorem dX10_years_18 : decode cX10_years 18 = .ok (.invokestatic 217, 3) := by decide +kernel
theorem dX10_years_21 : decode cX10_years 21 = .ok (.ifCond .eq 18, 3) := by decide +kernel
theorem dX10_years_24 : decode cX10_years 24 = .ok (.aload_n 0, 1) := by decide +kernel
theorem dX10_years_25 : decode cX10_years 25 = .ok (.getfield 61, 3) := by decide +kernel
theorem dX10_years_28 : decode cX10_years 28 = .ok (.bipush 51, 2) := by decide +kernel
theorem dX10_years_30 : decode cX10_years 30 = .ok (.iaload, 1) := by decide +kernel
theorem dX10_years_31 : decode cX10_years 31 = .ok (.iload_n 1, 1) := by decide +kernel
theorem dX10_years_32 : decode cX10_years 32 = .ok (.iadd, 1) := by decide +kernel
theorem dX10_years_33 : decode cX10_years 33 = .ok (.sipush 999, 3) := by decide +kernel
theorem dX10_years_36 : decode cX10_years 36 = .ok (.if_icmp .le 5, 3) := by decide +kernel
theorem dX10_years_39 : decode cX10_years 39 = .ok (.iconst (-1), 1) := by decide +kernel
theorem dX10_years_40 : decode cX10_years 40 = .ok (.ireturn, 1) := by decide +kernel
theorem dX10_years_41 : decode cX10_years 41 = .ok (.aload_n 0, 1) := by decide +kernel
theorem dX10_years_42 : decode cX10_years 42 = .ok (.lload_n 2, 1) := by decide +kernel
theorem dX10_years_43 : decode cX10_years 43 = .ok (.putfield 412, 3) := by decide +kernel
theorem dX10_years_46 : decode cX10_years 46 = .ok (.iconst 0, 1) := by decide +kernel
theorem dX10_years_47 : decode cX10_years 47 = .ok (.istore 4, 2) := by decide +kernel
theorem dX10_years_49 : decode cX10_years 49 = .ok (.iload 4, 2) := by decide +kernel
theorem dX10_years_51 : decode cX10_years 51 = .ok (.iload_n 1, 1) := by decide +kernel
theorem dX10_years_52 : decode cX10_years 52 = .ok (.if_icmp .ge 87, 3) := by decide +kernel
theorem dX10_years_55 : decode cX10_years 55 = .ok (.aload_n 0, 1) := by decide +kernel
theorem dX10_years_56 : decode cX10_years 56 = .ok (.invokevirtual 384, 3) := by decide +kernel
theorem dX10_years_59 : decode cX10_years 59 = .ok (.aload_n 0, 1) := by decide +kernel
theorem dX10_years_60 : decode cX10_years 60 = .ok (.bipush 10, 2) := by decide +kernel
theorem dX10_years_62 : decode cX10_years 62 = .ok (.invokevirtual 422, 3) := by decide +kernel
theorem dX10_years_65 : decode cX10_years 65 = .ok (.aload_n 0, 1) := by decide +kernel
theorem dX10_years_66 : decode cX10_years 66 = .ok (.getfield 71, 3) := by decide +kernel
theorem dX10_years_69 : decode cX10_years 69 = .ok (.if_icmp .ge 53, 3) := by decide +kernel
theorem dX10_years_72 : decode cX10_years 72 = .ok (.aload_n 0, 1) := by decide +kernel
theorem dX10_years_73 : decode cX10_years 73 = .ok (.aload_n 0, 1) := by decide +kernel
theorem dX10_years_74 : decode cX10_years 74 = .ok (.getfield 294, 3) := by decide +kernel
theorem dX10_years_77 : decode cX10_years 77 = .ok (.invokevirtual 422, 3) := by decide +kernel
theorem dX10_years_80 : decode cX10_years 80 = .ok (.istore 5, 2) := by decide +kernel
theorem dX10_years_82 : decode cX10_years 82 = .ok (.aload_n 0, 1) := by decide +kernel
theorem dX10_years_83 : decode cX10_years 83 = .ok (.aload_n 0, 1) := by decide +kernel
theorem dX10_years_84 : decode cX10_years 84 = .ok (.getfield 294, 3) := by decide +kernel
theorem dX10_years_87 : decode cX10_years 87 = .ok (.invokevirtual 422, 3) := by decide +kernel
theorem dX10_years_90 : decode cX10_years 90 = .ok (.istore 6, 2) := by decide +kernel
theorem dX10_years_92 : decode cX10_years 92 = .ok (.aload_n 0, 1) := by decide +kernel
theorem dX10_years_93 : decode cX10_years 93 = .ok (.bipush 9, 2) := by decide +kernel
theorem dX10_years_95 : decode cX10_years 95 = .ok (.invokevirtual 422, 3) := by decide +kernel
theorem dX10_years_98 : decode cX10_years 98 = .ok (.iconst 1, 1) := by decide +kernel
theorem dX10_years_99 : decode cX10_years 99 = .ok (.iadd, 1) := by decide +kernel
theorem dX10_years_100 : decode cX10_years 100 = .ok (.istore 7, 2) := by decide +kernel
theorem dX10_years_102 : decode cX10_years 102 = .ok (.iload 5, 2) := by decide +kernel
theorem dX10_years_104 : decode cX10_years 104 = .ok (.iload 6, 2) := by decide +kernel
theorem dX10_years_106 : decode cX10_years 106 = .ok (.if_icmp .eq 16, 3) := by decide +kernel
theorem dX10_years_109 : decode cX10_years 109 = .ok (.aload_n 0, 1) := by decide +kernel
theorem dX10_years_110 : decode cX10_years 110 = .ok (.getfield 61, 3) := by decide +kernel
theorem dX10_years_113 : decode cX10_years 113 = .ok (.iload 5, 2) := by decide +kernel
theorem dX10_years_115 : decode cX10_years 115 = .ok (.iload 6, 2) := by decide +kernel
theorem dX10_years_117 : decode cX10_years 117 = .ok (.iload 7, 2) := by decide +kernel
theorem dX10_years_119 : decode cX10_years 119 = .ok (.invokestatic 347, 3) := by decide +kernel
theorem dX10_years_122 : decode cX10_years 122 = .ok (.aload_n 0, 1) := by decide +kernel
theorem dX10_years_123 : decode cX10_years 123 = .ok (.aload_n 0, 1) := by decide +kernel
theorem dX10_years_124 : decode cX10_years 124 = .ok (.getfield 61, 3) := by decide +kernel
theorem dX10_years_127 : decode cX10_years 127 = .ok (.iconst 0, 1) := by decide +kernel
theorem dX10_years_128 : decode cX10_years 128 = .ok (.invokevirtual 390, 3) := by decide +kernel
theorem dX10_years_131 : decode cX10_years 131 = .ok (.istore 5, 2) := by decide +kernel
theorem dX10_years_133 : decode cX10_years 133 = .ok (.iinc 4 1, 3) := by decide +kernel
theorem dX10_years_136 : decode cX10_years 136 = .ok (.goto (-87), 3) := by decide +kernel
theorem dX10_years_139 : decode cX10_years 139 = .ok (.aload_n 0, 1) := by decide +kernel
theorem dX10_years_140 : decode cX10_years 140 = .ok (.getfield 61, 3) := by decide +kernel
theorem dX10_years_143 : decode cX10_years 143 = .ok (.bipush 51, 2) := by decide +kernel
theorem dX10_years_145 : decode cX10_years 145 = .ok (.iaload, 1) := by decide +kernel
theorem dX10_years_146 : decode cX10_years 146 = .ok (.ireturn, 1) := by decide +kernel
