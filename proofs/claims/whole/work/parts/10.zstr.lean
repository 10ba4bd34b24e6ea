theorem dJ0_length_8abf5_0 : decode cJ0_length_8abf5 0 = .ok (.aload_n 0, 1) := by decide +kernel
theorem dJ0_length_8abf5_1 : decode cJ0_length_8abf5 1 = .ok (.getfield 9, 3) := by decide +kernel
theorem dJ0_length_8abf5_4 : decode cJ0_length_8abf5 4 = .ok (.arraylength, 1) := by decide +kernel
theorem dJ0_length_8abf5_5 : decode cJ0_length_8abf5 5 = .ok (.aload_n 0, 1) := by decide +kernel
theorem dJ0_length_8abf5_6 : decode cJ0_length_8abf5 6 = .ok (.invokevirtual 335, 3) := by decide +kernel
theorem dJ0_length_8abf5_9 : decode cJ0_length_8abf5 9 = .ok (.ishr, 1) := by decide +kernel
theorem dJ0_length_8abf5_10 : decode cJ0_length_8abf5 10 = .ok (.ireturn, 1) := by decide +kernel
theorem dJ0_charAt_5068e_0 : decode cJ0_charAt_5068e 0 = .ok (.aload_n 0, 1) := by decide +kernel
theorem dJ0_charAt_5068e_1 : decode cJ0_charAt_5068e 1 = .ok (.invokevirtual 492, 3) := by decide +kernel
theorem dJ0_charAt_5068e_4 : decode cJ0_charAt_5068e 4 = .ok (.ifCond .eq 12, 3) := by decide +kernel
theorem dJ0_charAt_5068e_7 : decode cJ0_charAt_5068e 7 = .ok (.aload_n 0, 1) := by decide +kernel
theorem dJ0_charAt_5068e_8 : decode cJ0_charAt_5068e 8 = .ok (.getfield 9, 3) := by decide +kernel
theorem dJ0_charAt_5068e_11 : decode cJ0_charAt_5068e 11 = .ok (.iload_n 1, 1) := by decide +kernel
theorem dJ0_charAt_5068e_12 : decode cJ0_charAt_5068e 12 = .ok (.invokestatic 495, 3) := by decide +kernel
theorem dJ0_charAt_5068e_15 : decode cJ0_charAt_5068e 15 = .ok (.ireturn, 1) := by decide +kernel
theorem dJ0_charAt_5068e_16 : decode cJ0_charAt_5068e 16 = .ok (.aload_n 0, 1) := by decide +kernel
theorem dJ0_charAt_5068e_17 : decode cJ0_charAt_5068e 17 = .ok (.getfield 9, 3) := by decide +kernel
theorem dJ0_charAt_5068e_20 : decode cJ0_charAt_5068e 20 = .ok (.iload_n 1, 1) := by decide +kernel
theorem dJ0_charAt_5068e_21 : decode cJ0_charAt_5068e 21 = .ok (.invokestatic 498, 3) := by decide +kernel
theorem dJ0_charAt_5068e_24 : decode cJ0_charAt_5068e 24 = .ok (.ireturn, 1) := by decide +kernel
theorem dJ0_coder_7d493_0 : decode cJ0_coder_7d493 0 = .ok (.getstatic 38, 3) := by decide +kernel
theorem dJ0_coder_7d493_3 : decode cJ0_coder_7d493 3 = .ok (.ifCond .eq 10, 3) := by decide +kernel
theorem dJ0_coder_7d493_6 : decode cJ0_coder_7d493 6 = .ok (.aload_n 0, 1) := by decide +kernel
theorem dJ0_coder_7d493_7 : decode cJ0_coder_7d493 7 = .ok (.getfield 15, 3) := by decide +kernel
theorem dJ0_coder_7d493_10 : decode cJ0_coder_7d493 10 = .ok (.goto 4, 3) := by decide +kernel
theorem dJ0_coder_7d493_13 : decode cJ0_coder_7d493 13 = .ok (.iconst 1, 1) := by decide +kernel
theorem dJ0_coder_7d493_14 : decode cJ0_coder_7d493 14 = .ok (.ireturn, 1) := by decide +kernel
theorem dJ0_isLatin1_aae02_0 : decode cJ0_isLatin1_aae02 0 = .ok (.getstatic 38, 3) := by decide +kernel
theorem dJ0_isLatin1_aae02_3 : decode cJ0_isLatin1_aae02 3 = .ok (.ifCond .eq 14, 3) := by decide +kernel
theorem dJ0_isLatin1_aae02_6 : decode cJ0_isLatin1_aae02 6 = .ok (.aload_n 0, 1) := by decide +kernel
theorem dJ0_isLatin1_aae02_7 : decode cJ0_isLatin1_aae02 7 = .ok (.getfield 15, 3) := by decide +kernel
theorem dJ0_isLatin1_aae02_10 : decode cJ0_isLatin1_aae02 10 = .ok (.ifCond .ne 7, 3) := by decide +kernel
theorem dJ0_isLatin1_aae02_13 : decode cJ0_isLatin1_aae02 13 = .ok (.iconst 1, 1) := by decide +kernel
theorem dJ0_isLatin1_aae02_14 : decode cJ0_isLatin1_aae02 14 = .ok (.goto 4, 3) := by decide +kernel
theorem dJ0_isLatin1_aae02_17 : decode cJ0_isLatin1_aae02 17 = .ok (.iconst 0, 1) := by decide +kernel
theorem dJ0_isLatin1_aae02_18 : decode cJ0_isLatin1_aae02 18 = .ok (.ireturn, 1) := by decide +kernel
theorem dJ0_checkIndex_df160_0 : decode cJ0_checkIndex_df160 0 = .ok (.iload_n 0, 1) := by decide +kernel
theorem dJ0_checkIndex_df160_1 : decode cJ0_checkIndex_df160 1 = .ok (.iload_n 1, 1) := by decide +kernel
theorem dJ0_checkIndex_df160_2 : decode cJ0_checkIndex_df160 2 = .ok (.getstatic 1053, 3) := by decide +kernel
theorem dJ0_checkIndex_df160_5 : decode cJ0_checkIndex_df160 5 = .ok (.invokestatic 1059, 3) := by decide +kernel
theorem dJ0_checkIndex_df160_8 : decode cJ0_checkIndex_df160 8 = .ok (.pop, 1) := by decide +kernel
theorem dJ0_checkIndex_df160_9 : decode cJ0_checkIndex_df160 9 = .ok (.return_, 1) := by decide +kernel
theorem dJ1_charAt_3b067_0 : decode cJ1_charAt_3b067 0 = .ok (.iload_n 1, 1) := by decide +kernel
theorem dJ1_charAt_3b067_1 : decode cJ1_charAt_3b067 1 = .ok (.aload_n 0, 1) := by decide +kernel
theorem dJ1_charAt_3b067_2 : decode cJ1_charAt_3b067 2 = .ok (.arraylength, 1) := by decide +kernel
theorem dJ1_charAt_3b067_3 : decode cJ1_charAt_3b067 3 = .ok (.invokestatic 9, 3) := by decide +kernel
theorem dJ1_charAt_3b067_6 : decode cJ1_charAt_3b067 6 = .ok (.aload_n 0, 1) := by decide +kernel
theorem dJ1_charAt_3b067_7 : decode cJ1_charAt_3b067 7 = .ok (.iload_n 1, 1) := by decide +kernel
theorem dJ1_charAt_3b067_8 : decode cJ1_charAt_3b067 8 = .ok (.baload, 1) := by decide +kernel
theorem dJ1_charAt_3b067_9 : decode cJ1_charAt_3b067 9 = .ok (.sipush 255, 3) := by decide +kernel
theorem dJ1_charAt_3b067_12 : decode cJ1_charAt_3b067 12 = .ok (.iand, 1) := by decide +kernel
theorem dJ1_charAt_3b067_13 : decode cJ1_charAt_3b067 13 = .ok (.i2c, 1) := by decide +kernel
theorem dJ1_charAt_3b067_14 : decode cJ1_charAt_3b067 14 = .ok (.ireturn, 1) := by decide +kernel
theorem dJ3_checkIndex_8e157_0 : decode cJ3_checkIndex_8e157 0 = .ok (.iload_n 0, 1) := by decide +kernel
theorem dJ3_checkIndex_8e157_1 : decode cJ3_checkIndex_8e157 1 = .ok (.ifCond .lt 8, 3) := by decide +kernel
theorem dJ3_checkIndex_8e157_4 : decode cJ3_checkIndex_8e157 4 = .ok (.iload_n 0, 1) := by decide +kernel
theorem dJ3_checkIndex_8e157_5 : decode cJ3_checkIndex_8e157 5 = .ok (.iload_n 1, 1) := by decide +kernel
theorem dJ3_checkIndex_8e157_6 : decode cJ3_checkIndex_8e157 6 = .ok (.if_icmp .lt 10, 3) := by decide +kernel
theorem dJ3_checkIndex_8e157_9 : decode cJ3_checkIndex_8e157 9 = .ok (.aload_n 2, 1) := by decide +kernel
theorem dJ3_checkIndex_8e157_10 : decode cJ3_checkIndex_8e157 10 = .ok (.iload_n 0, 1) := by decide +kernel
theorem dJ3_checkIndex_8e157_11 : decode cJ3_checkIndex_8e157 11 = .ok (.iload_n 1, 1) := by decide +kernel
theorem dJ3_checkIndex_8e157_12 : decode cJ3_checkIndex_8e157 12 = .ok (.invokestatic 95, 3) := by decide +kernel
theorem dJ3_checkIndex_8e157_15 : decode cJ3_checkIndex_8e157 15 = .ok (.athrow, 1) := by decide +kernel
theorem dJ3_checkIndex_8e157_16 : decode cJ3_checkIndex_8e157 16 = .ok (.iload_n 0, 1) := by decide +kernel
theorem dJ3_checkIndex_8e157_17 : decode cJ3_checkIndex_8e157 17 = .ok (.ireturn, 1) := by decide +kernel
theorem w_i_String : Cond.initialized "java/lang/String" ∈ WS := WS_of (w := Cond.initialized "java/lang/String") (tb_1 (List.mem_of_getElem? (i := 13) (by decide +kernel))) (by decide +kernel)
theorem w_i_StringLatin1 : Cond.initialized "java/lang/StringLatin1" ∈ WS := WS_of (w := Cond.initialized "java/lang/StringLatin1") (tb_1 (List.mem_of_getElem? (i := 14) (by decide +kernel))) (by decide +kernel)
theorem w_i_Preconditions : Cond.initialized "jdk/internal/util/Preconditions" ∈ WS := WS_of (w := Cond.initialized "jdk/internal/util/Preconditions") (tb_1 (List.mem_of_getElem? (i := 15) (by decide +kernel))) (by decide +kernel)
def N_Sg_length : Mt := (yJ0_length_8abf5, cJ0_length_8abf5, 1, (Option.some Jvm.ClassFile.FieldType.int))
theorem mt_Sg_length : MT N_Sg_length 0 := ⟨WS_of (w := Cond.code yJ0_length_8abf5 cJ0_length_8abf5 1 (Option.some Jvm.ClassFile.FieldType.int)) (tb_6 (List.mem_of_getElem? (i := 113) (by decide +kernel))) (by decide +kernel), w_i_String, ⟨by decide, by decide, by decide +kernel⟩, by decide⟩
theorem st_Sg_length : Cond.instanceMethod N_Sg_length.1 ∈ WS ∧ Cond.selects N_Sg_length.1.cls N_Sg_length.1 N_Sg_length.1 ∈ WS := ⟨WS_of (w := Cond.instanceMethod yJ0_length_8abf5) (tb_6 (List.mem_of_getElem? (i := 111) (by decide +kernel))) (by decide +kernel), WS_of (w := Cond.selects RJ0 yJ0_length_8abf5 yJ0_length_8abf5) (tb_6 (List.mem_of_getElem? (i := 112) (by decide +kernel))) (by decide +kernel)⟩
def N_Sg_charAt : Mt := (yJ0_charAt_5068e, cJ0_charAt_5068e, 2, (Option.some Jvm.ClassFile.FieldType.char))
theorem mt_Sg_charAt : MT N_Sg_charAt 1 := ⟨WS_of (w := Cond.code yJ0_charAt_5068e cJ0_charAt_5068e 2 (Option.some Jvm.ClassFile.FieldType.char)) (tb_6 (List.mem_of_getElem? (i := 129) (by decide +kernel))) (by decide +kernel), w_i_String, ⟨by decide, by decide, by decide +kernel⟩, by decide⟩
theorem st_Sg_charAt : Cond.instanceMethod N_Sg_charAt.1 ∈ WS ∧ Cond.selects N_Sg_charAt.1.cls N_Sg_charAt.1 N_Sg_charAt.1 ∈ WS := ⟨WS_of (w := Cond.instanceMethod yJ0_charAt_5068e) (tb_6 (List.mem_of_getElem? (i := 127) (by decide +kernel))) (by decide +kernel), WS_of (w := Cond.selects RJ0 yJ0_charAt_5068e yJ0_charAt_5068e) (tb_6 (List.mem_of_getElem? (i := 128) (by decide +kernel))) (by decide +kernel)⟩
def N_Sg_coder : Mt := (yJ0_coder_7d493, cJ0_coder_7d493, 1, (Option.some Jvm.ClassFile.FieldType.byte))
theorem mt_Sg_coder : MT N_Sg_coder 0 := ⟨WS_of (w := Cond.code yJ0_coder_7d493 cJ0_coder_7d493 1 (Option.some Jvm.ClassFile.FieldType.byte)) (tb_6 (List.mem_of_getElem? (i := 117) (by decide +kernel))) (by decide +kernel), w_i_String, ⟨by decide, by decide, by decide +kernel⟩, by decide⟩
theorem st_Sg_coder : Cond.instanceMethod N_Sg_coder.1 ∈ WS ∧ Cond.selects N_Sg_coder.1.cls N_Sg_coder.1 N_Sg_coder.1 ∈ WS := ⟨WS_of (w := Cond.instanceMethod yJ0_coder_7d493) (tb_6 (List.mem_of_getElem? (i := 115) (by decide +kernel))) (by decide +kernel), WS_of (w := Cond.selects RJ0 yJ0_coder_7d493 yJ0_coder_7d493) (tb_6 (List.mem_of_getElem? (i := 116) (by decide +kernel))) (by decide +kernel)⟩
def N_Sg_isLatin1 : Mt := (yJ0_isLatin1_aae02, cJ0_isLatin1_aae02, 1, (Option.some Jvm.ClassFile.FieldType.boolean))
theorem mt_Sg_isLatin1 : MT N_Sg_isLatin1 0 := ⟨WS_of (w := Cond.code yJ0_isLatin1_aae02 cJ0_isLatin1_aae02 1 (Option.some Jvm.ClassFile.FieldType.boolean)) (tb_6 (List.mem_of_getElem? (i := 133) (by decide +kernel))) (by decide +kernel), w_i_String, ⟨by decide, by decide, by decide +kernel⟩, by decide⟩
theorem st_Sg_isLatin1 : Cond.instanceMethod N_Sg_isLatin1.1 ∈ WS ∧ Cond.selects N_Sg_isLatin1.1.cls N_Sg_isLatin1.1 N_Sg_isLatin1.1 ∈ WS := ⟨WS_of (w := Cond.instanceMethod yJ0_isLatin1_aae02) (tb_6 (List.mem_of_getElem? (i := 131) (by decide +kernel))) (by decide +kernel), WS_of (w := Cond.selects RJ0 yJ0_isLatin1_aae02 yJ0_isLatin1_aae02) (tb_6 (List.mem_of_getElem? (i := 132) (by decide +kernel))) (by decide +kernel)⟩
def N_Sg_checkIndex : Mt := (yJ0_checkIndex_df160, cJ0_checkIndex_df160, 2, (Option.none : Option Jvm.ClassFile.FieldType))
theorem mt_Sg_checkIndex : MT N_Sg_checkIndex 2 := ⟨WS_of (w := Cond.code yJ0_checkIndex_df160 cJ0_checkIndex_df160 2 (Option.none : Option Jvm.ClassFile.FieldType)) (tb_6 (List.mem_of_getElem? (i := 139) (by decide +kernel))) (by decide +kernel), w_i_String, ⟨by decide, by decide, by decide +kernel⟩, by decide⟩
theorem st_Sg_checkIndex : Cond.static N_Sg_checkIndex.1 ∈ WS := WS_of (w := Cond.static yJ0_checkIndex_df160) (tb_6 (List.mem_of_getElem? (i := 138) (by decide +kernel))) (by decide +kernel)
def N_Sl_charAt : Mt := (yJ1_charAt_3b067, cJ1_charAt_3b067, 2, (Option.some Jvm.ClassFile.FieldType.char))
theorem mt_Sl_charAt : MT N_Sl_charAt 2 := ⟨WS_of (w := Cond.code yJ1_charAt_3b067 cJ1_charAt_3b067 2 (Option.some Jvm.ClassFile.FieldType.char)) (tb_6 (List.mem_of_getElem? (i := 136) (by decide +kernel))) (by decide +kernel), w_i_StringLatin1, ⟨by decide, by decide, by decide +kernel⟩, by decide⟩
theorem st_Sl_charAt : Cond.static N_Sl_charAt.1 ∈ WS := WS_of (w := Cond.static yJ1_charAt_3b067) (tb_6 (List.mem_of_getElem? (i := 135) (by decide +kernel))) (by decide +kernel)
def N_Pr_checkIndex : Mt := (yJ3_checkIndex_8e157, cJ3_checkIndex_8e157, 3, (Option.some Jvm.ClassFile.FieldType.int))
theorem mt_Pr_checkIndex : MT N_Pr_checkIndex 3 := ⟨WS_of (w := Cond.code yJ3_checkIndex_8e157 cJ3_checkIndex_8e157 3 (Option.some Jvm.ClassFile.FieldType.int)) (tb_6 (List.mem_of_getElem? (i := 144) (by decide +kernel))) (by decide +kernel), w_i_Preconditions, ⟨by decide, by decide, by decide +kernel⟩, by decide⟩
theorem st_Pr_checkIndex : Cond.static N_Pr_checkIndex.1 ∈ WS := WS_of (w := Cond.static yJ3_checkIndex_8e157) (tb_6 (List.mem_of_getElem? (i := 143) (by decide +kernel))) (by decide +kernel)
theorem mls_String_335 : ML "java/lang/String" 335 yJ0_coder_7d493 := Or.inl (WS_of (w := Cond.methodLink "java/lang/String" 335 yJ0_coder_7d493) (tb_6 (List.mem_of_getElem? (i := 114) (by decide +kernel))) (by decide +kernel))
theorem mls_String_492 : ML "java/lang/String" 492 yJ0_isLatin1_aae02 := Or.inl (WS_of (w := Cond.methodLink "java/lang/String" 492 yJ0_isLatin1_aae02) (tb_6 (List.mem_of_getElem? (i := 130) (by decide +kernel))) (by decide +kernel))
theorem mls_String_495 : ML "java/lang/String" 495 yJ1_charAt_3b067 := Or.inl (WS_of (w := Cond.methodLink "java/lang/String" 495 yJ1_charAt_3b067) (tb_6 (List.mem_of_getElem? (i := 134) (by decide +kernel))) (by decide +kernel))
theorem mls_String_1059 : ML "java/lang/String" 1059 yJ3_checkIndex_8e157 := Or.inl (WS_of (w := Cond.methodLink "java/lang/String" 1059 yJ3_checkIndex_8e157) (tb_6 (List.mem_of_getElem? (i := 142) (by decide +kernel))) (by decide +kernel))
theorem mls_StringLatin1_9 : ML "java/lang/StringLatin1" 9 yJ0_checkIndex_df160 := Or.inl (WS_of (w := Cond.methodLink "java/lang/StringLatin1" 9 yJ0_checkIndex_df160) (tb_6 (List.mem_of_getElem? (i := 137) (by decide +kernel))) (by decide +kernel))
theorem fls_9 : Cond.fieldLink "java/lang/String" 9 "java/lang/String" "value" "[B" ∈ WS := WS_of (w := Cond.fieldLink "java/lang/String" 9 "java/lang/String" "value" "[B") (tb_8 (List.mem_of_getElem? (i := 130) (by decide +kernel))) (by decide +kernel)
theorem fls_15 : Cond.fieldLink "java/lang/String" 15 "java/lang/String" "coder" "B" ∈ WS := WS_of (w := Cond.fieldLink "java/lang/String" 15 "java/lang/String" "coder" "B") (tb_8 (List.mem_of_getElem? (i := 131) (by decide +kernel))) (by decide +kernel)
theorem fls_38 : Cond.fieldLink "java/lang/String" 38 "java/lang/String" "COMPACT_STRINGS" "Z" ∈ WS := WS_of (w := Cond.fieldLink "java/lang/String" 38 "java/lang/String" "COMPACT_STRINGS" "Z") (tb_6 (List.mem_of_getElem? (i := 118) (by decide +kernel))) (by decide +kernel)
theorem fls_1053 : Cond.fieldLink "java/lang/String" 1053 "jdk/internal/util/Preconditions" "SIOOBE_FORMATTER" "Ljava/util/function/BiFunction;" ∈ WS := WS_of (w := Cond.fieldLink "java/lang/String" 1053 "jdk/internal/util/Preconditions" "SIOOBE_FORMATTER" "Ljava/util/function/BiFunction;") (tb_6 (List.mem_of_getElem? (i := 140) (by decide +kernel))) (by decide +kernel)
section Str
variable {ω : Wd} {M : Mt} {d mc ms cl sl : Nat} {PQ : PQt} {sh : Shp} {pt : Ptr} {z : Nat → Prop} {h : Hp} {pc : Nat} {lv : List (Option Value)} {st : List Value} {i idx : Nat}
theorem ev_nret {Q : Qt} {x y : Int} {ty : FieldType} (hd : decode M.2.1 pc = .ok (.ireturn, 1)) (hr : M.2.2.2 = some ty) (hn : narrow ty (.int (Int32.ofInt x)) = .int (Int32.ofInt y)) (hc : cl ≤ mc) (hs : sl ≤ ms) (hQ : Q (some (iV y)) sh pt z h) : Ev ω M d (PQm ω Q mc ms) mc ms cl sl sh pt z h pc lv [iV x] := by
  intro p l e R s m args below meth c H locs ls Y
  refine W.widen hc hs ?_
  exact W_nret (v := Int32.ofInt x) (v' := Int32.ofInt y) Y.1.1 Y.1.2.1 (Y.1.2.2.1.trans hr) hn (fun t ht hW => ⟨⟨some (iV y), sh, pt, z, h, rfl, hQ, by rw [ht]; exact Y.2.2.2.1.moved hW.alike⟩, Y.2.2.2.2.2.F ht⟩) Y.2.2.2.2.2.2.2 hd Y.1.2.2.2.2.2.2.1
theorem ev_sval (hi : i < 7) (hd : decode M.2.1 pc = .ok (.getfield idx, 3)) (hw : Cond.fieldLink M.1.cls idx "java/lang/String" "value" "[B" ∈ WS) (k : Ev ω M d PQ mc ms cl sl sh pt z h (pc + 3) lv (.ref (ω.2.2.2.2.1 i) :: st)) : Ev ω M d PQ mc ms cl sl sh pt z h pc lv (aV ω (10 + (i : Int)) :: st) := by
  intro p l e R s m args below meth c H locs ls Y
  have hts : ∀ w ∈ WS, w.before args s = true := Y.1.2.2.2.2.2.1
  rw [aV_pos (by omega)]
  obtain ⟨-, -, ⟨cf, k9, fi, f, cell, h1, h2, h3, h4, h5, h6⟩, -⟩ := Y.2.2.2.1.2.2.2.2.2.2.1.1 i hi
  exact W.getf Y.1.1 Y.1.2.1 Y.1.2.2.2.2.1 (hts _ hw) h1 h2 h3 h4 h5 rfl rfl hd (k p l e R s m args below meth c H locs ls Y)
theorem ev_scod (hi : i < 7) (hd : decode M.2.1 pc = .ok (.getfield idx, 3)) (hw : Cond.fieldLink M.1.cls idx "java/lang/String" "coder" "B" ∈ WS) (k : Ev ω M d PQ mc ms cl sl sh pt z h (pc + 3) lv (iV 0 :: st)) : Ev ω M d PQ mc ms cl sl sh pt z h pc lv (aV ω (10 + (i : Int)) :: st) := by
  intro p l e R s m args below meth c H locs ls Y
  have hts : ∀ w ∈ WS, w.before args s = true := Y.1.2.2.2.2.2.1
  rw [aV_pos (by omega)]
  obtain ⟨-, ⟨cf, k9, fi, f, cell, h1, h2, h3, h4, h5, h6⟩, -, -⟩ := Y.2.2.2.1.2.2.2.2.2.2.1.1 i hi
  exact W.getf Y.1.1 Y.1.2.1 Y.1.2.2.2.2.1 (hts _ hw) h1 h2 h3 h4 h5 rfl rfl hd (k p l e R s m args below meth c H locs ls Y)
theorem ev_scomp (hd : decode M.2.1 pc = .ok (.getstatic idx, 3)) (hw : Cond.fieldLink M.1.cls idx "java/lang/String" "COMPACT_STRINGS" "Z" ∈ WS) (k : Ev ω M d PQ mc ms cl sl sh pt z h (pc + 3) lv (iV 1 :: st)) : Ev ω M d PQ mc ms cl sl sh pt z h pc lv st := by
  intro p l e R s m args below meth c H locs ls Y
  have hts : ∀ w ∈ WS, w.before args s = true := Y.1.2.2.2.2.2.1
  obtain ⟨cf, kf, fi, f, a, cell, h1, h2, h3, h4, h5, h6, h7, h8⟩ := Y.2.2.2.1.2.2.2.2.2.2.2.1
  exact W.gets Y.1.1 Y.1.2.1 Y.1.2.2.2.2.1 (hts _ hw) h1 h2 h3 h4 h5 (fun g => by rw [g] at h6; cases h6) h7 rfl hd (k p l e R s m args below meth c H locs ls Y)
theorem ev_sform (hd : decode M.2.1 pc = .ok (.getstatic idx, 3)) (hw : Cond.fieldLink M.1.cls idx "jdk/internal/util/Preconditions" "SIOOBE_FORMATTER" "Ljava/util/function/BiFunction;" ∈ WS) (k : ∀ v : Value, isA v → Ev ω M d PQ mc ms cl sl sh pt z h (pc + 3) lv (v :: st)) : Ev ω M d PQ mc ms cl sl sh pt z h pc lv st := by
  intro p l e R s m args below meth c H locs ls Y
  have hts : ∀ w ∈ WS, w.before args s = true := Y.1.2.2.2.2.2.1
  rcases Y.2.2.2.1.2.2.2.2.2.2.2.2.1 with ⟨cf, kf, fi, f, a, cell, h1, h2, h3, h4, h5, h6, h7, h8⟩ | ⟨t, cf, kf, fi, f, a, cell, h1, h2, h3, h4, h5, h6, h7, h8⟩
  · exact W.gets Y.1.1 Y.1.2.1 Y.1.2.2.2.2.1 (hts _ hw) h1 h2 h3 h4 h5 (fun g => by rw [g] at h6; cases h6) h7 rfl hd (k _ (Or.inl rfl) p l e R s m args below meth c H locs ls Y)
  · exact W.gets Y.1.1 Y.1.2.1 Y.1.2.2.2.2.1 (hts _ hw) h1 h2 h3 h4 h5 (fun g => by rw [g] at h6; cases h6) h7 rfl hd (k _ (Or.inr ⟨t, rfl⟩) p l e R s m args below meth c H locs ls Y)
theorem ev_slenA (hi : i < 7) (hd : decode M.2.1 pc = .ok (.arraylength, 1)) (k : Ev ω M d PQ mc ms cl sl sh pt z h (pc + 1) lv (iV ((kLen.getD i 0 : Nat) : Int) :: st)) : Ev ω M d PQ mc ms cl sl sh pt z h pc lv (.ref (ω.2.2.2.2.1 i) :: st) := by
  intro p l e R s m args below meth c H locs ls Y
  obtain ⟨-, -, -, cell, h1, h2, h3, h4, h5, h6, h7⟩ := Y.2.2.2.1.2.2.2.2.2.2.1.1 i hi
  exact W.alen Y.1.1 Y.1.2.1 h1 h2 h5 rfl rfl hd (k p l e R s m args below meth c H locs ls Y)
theorem ev_sbald {j : Int} (hi : i < 7) (hd : decode M.2.1 pc = .ok (.baload, 1)) (h0 : 0 ≤ w32 j) (hj : w32 j < (kLen.getD i 0 : Nat)) (k : Ev ω M d PQ mc ms cl sl sh pt z h (pc + 1) lv (iV ((kByt.getD i []).getD (w32 j).toNat 0).toInt :: st)) : Ev ω M d PQ mc ms cl sl sh pt z h pc lv (iV j :: .ref (ω.2.2.2.2.1 i) :: st) := by
  intro p l e R s m args below meth c H locs ls Y
  obtain ⟨-, -, -, cell, h1, h2, h3, h4, h5, h6, h7⟩ := Y.2.2.2.1.2.2.2.2.2.2.1.1 i hi
  have h9 := h6 (w32 j).toNat (by omega)
  have k := k p l e R s m args below meth c H locs ls Y
  rw [iV_toInt] at k
  refine W.bald (v := .int ((kByt.getD i []).getD (w32 j).toNat 0)) Y.1.1 Y.1.2.1 h1 h2 h3 (ix_ok h0 hj h4) ?_ rfl rfl hd k
  rw [iv_clamp, h9]
theorem ev_i2c {x y : Int} (hd : decode M.2.1 pc = .ok (.i2c, 1)) (hv : (Int32.ofInt x).toUInt32.toUInt16.toUInt32.toInt32 = Int32.ofInt y ∨ ((Int32.ofInt x).toUInt32 % 65536).toInt32 = Int32.ofInt y) (k : Ev ω M d PQ mc ms cl sl sh pt z h (pc + 1) lv (iV y :: st)) : Ev ω M d PQ mc ms cl sl sh pt z h pc lv (iV x :: st) := by
  intro p l e R s m args below meth c H locs ls Y
  have k := k p l e R s m args below meth c H locs ls Y
  rcases hv with hv | hv
  · refine lv_i2c (v := Int32.ofInt y) Y.1.1 Y.1.2.1 hd ?_ k
    first | exact hv | (rw [← hv]; first | rfl | simp)
  · refine lv_i2c (v := Int32.ofInt y) Y.1.1 Y.1.2.1 hd ?_ k
    first | exact hv | (rw [← hv]; first | rfl | simp)
theorem ev_callStr {d' mc' ms' n : Nat} {N : Mt} {As rest : List Value} {Qc : Qt} (hi : i < 7) (hC : Ct ω N d' (aV ω (10 + (i : Int)) :: As) sh pt z h mc' ms' Qc) (hd : decode M.2.1 pc = .ok (.invokevirtual idx, 3)) (hM : MT N n) (hst : Cond.instanceMethod N.1 ∈ WS ∧ Cond.selects N.1.cls N.1 N.1 ∈ WS) (hL : ML M.1.cls idx N.1) (hy : N.1.cls = "java/lang/String") (hd' : d' + 1 ≤ d) (hn : As.length = n) (hw : (rest.map fun v => v.category).sum ≤ 8) (hcl : cl + mc' ≤ mc) (hsl : sl + ms' ≤ ms)
    (k : ∀ v sh' pt' z' h', Qc v sh' pt' z' h' → Ev ω M d PQ mc ms (cl + mc') (sl + ms') sh' pt' z' h' (pc + 3) lv (v.toList ++ rest)) : Ev ω M d PQ mc ms cl sl sh pt z h pc lv (As.reverse ++ aV ω (10 + (i : Int)) :: rest) := by
  refine ev_callcore (v0 := aV ω (10 + (i : Int)) :: As) (d' := d') (N := N) hcl hsl ?_ k
  intro p l e R s m args below meth c H locs ls Y
  obtain ⟨C, rm9, hV, hH, hl, hS⟩ := id Y
  have hts : ∀ w ∈ WS, w.before args s = true := C.2.2.2.2.2.1
  have ha : aV ω (10 + (i : Int)) = .ref (ω.1 (10 + (i : Int))) := aV_pos (by omega)
  rw [ha] at hC ⊢
  obtain ⟨⟨cell, g1, g2, g3, g4⟩, -⟩ := hH.2.2.2.2.2.2.1.1 i hi
  have hp : PreV s H N.1.cls (ω.1 (10 + (i : Int))) (PcOf ω (.ref (ω.1 (10 + (i : Int))) :: As) sh pt z h) As := ⟨PcOf.blind, ⟨cell, g1, g2, by rw [hy]; exact g3⟩, fun U hU hW => ⟨rfl, hV.warm hW, by rw [hU]; exact hH.moved hW.alike⟩⟩
  have hR : d' + 1 ≤ R.frames ∧ 8 + (N.2.2.1 + 11) + 60 * d' ≤ R.locals := by have := hM.2.2.2; omega
  rcases hL with g | ⟨host, g⟩
  · exact va_runV ⟨C.1, C.2.1, C.2.2.2.1, C.2.2.2.2.1, hts⟩ (hC l rm9.2.2.2.2) ⟨⟨rfl, rfl, hR.1, hR.2, pay_WS hM hts, List.mem_cons_self, hts _ hM.1, hts _ hM.2.1, ⟨hM.2.2.1.1, hM.2.2.1.2.1⟩, cnt_of hM, hts _ g⟩, hts _ hst.1, hts _ hst.2⟩ hp rfl hn hl.1 rfl (lv_room hw) hd ⟨by omega, by omega⟩
  · exact va_runVN ⟨C.1, C.2.1, C.2.2.2.1, C.2.2.2.2.1, hts⟩ (hC l rm9.2.2.2.2) ⟨⟨⟨rfl, rfl, hR.1, hR.2, pay_WS hM hts, List.mem_cons_self⟩, hts _ hM.1, hts _ hM.2.1, ⟨hM.2.2.1.1, hM.2.2.1.2.1⟩, cnt_of hM, va_Nw.use rfl (hV.2.2.1 _ g)⟩, hts _ hst.1, hts _ hst.2⟩ hp rfl hn hl.1 rfl (lv_room hw) hd ⟨by omega, by omega⟩
theorem W_ldcwS {p : Program} {l : Launch} {e : Env} {R : Room} {s : State} {m : MethodId} {args : Array Value} {below : List Frame} {meth : Method} {c : Code} {H : Heap} {locs : List Loc} {cells slots : Nat} {Q : State → Prop} {cc : ByteArray} {pc : Nat} {ls : Array Slot} {rest : List Value} (hexec : p.tables.exec = Jvm.exec) (hb : c.code = cc) {own tx : String} {index q : Nat} (hown : s.vm.findClass own = some m.cls) (hZ : vk_R own index tx q s) (hdg : decode cc pc = .ok (.ldc_w index, 3))
    (k : W p l e R s m args below meth c H locs cells slots Q (F0 m (pc + 3) ls (.ref q :: rest))) : W p l e R s m args below meth c H locs cells slots Q (F0 m pc ls rest) := by
  intro T hT X
  obtain ⟨t, a1, b1⟩ := k T hT X
  refine ⟨t, ?_, b1⟩
  obtain ⟨k9, cf, i, a', hk, hcf, hcp, -, hr, hev'⟩ := Cond.stringRef_spec hown hZ.1
  cases hZ.2.symm.trans hev'
  obtain ⟨k', hk', he⟩ := X.warmed.alike.2.2 _ _ hk
  have hr' : k'.resolved[index]? = some (some (.string q)) := by
    rcases X.warmed.entry hk hk' index with h | ⟨h, -⟩
    · rw [h]; exact hr
    · rw [hr] at h; cases h
  have hdg' : decode c.code (F0 m pc ls rest).pc = .ok (.ldc_w index, 3) := by rw [hb]; exact hdg
  jvm_step X.here [hexec, hdg', ldc_w.wp_string (e := e) (s := T) (f := F0 m pc ls rest) X.here.top hk' (by rw [he]; exact hcf) hcp hr']
  exact a1
theorem ev_ldcwS {i : Nat} {n : Nat} (hn : n < 7) (ho : kOwn n = M.1.cls) (hx : kIx n = i) (hd : decode M.2.1 pc = .ok (.ldc_w i, 3)) (k : Ev ω M d PQ mc ms cl sl sh pt z h (pc + 3) lv (aV ω (10 + (n : Int)) :: st)) : Ev ω M d PQ mc ms cl sl sh pt z h pc lv st := by
  intro p l e R s m args below meth c H locs ls Y
  have hz := Y.2.2.1.2.1 n hn
  rw [ho, hx] at hz
  have k := k p l e R s m args below meth c H locs ls Y
  rw [aV_pos (by omega)] at k
  exact W_ldcwS Y.1.1 Y.1.2.1 Y.1.2.2.2.2.1 hz hd k
theorem evB_callStr {Q : Qt} {d' n : Nat} {N : Mt} {As rest st0 : List Value} {r : Int} {h1 : Hp} (hi : i < 7) (hC : CtB ω N d' (aV ω (10 + (i : Int)) :: As) z h (some (iV r)) h1) (hd : decode M.2.1 pc = .ok (.invokevirtual idx, 3)) (hM : MT N n) (hst : Cond.instanceMethod N.1 ∈ WS ∧ Cond.selects N.1.cls N.1 N.1 ∈ WS) (hL : ML M.1.cls idx N.1) (hy : N.1.cls = "java/lang/String") (hd' : d' + 1 ≤ d) (hn : As.length = n) (h0 : st0 = As.reverse ++ aV ω (10 + (i : Int)) :: rest) (hw : (rest.map fun v => v.category).sum ≤ 8)
    (k : EvB ω M d Q z h1 (pc + 3) lv (iV r :: rest)) : EvB ω M d Q z h pc lv st0 := by
  subst h0
  refine ev_callStr hi hC hd hM hst hL hy hd' hn hw (Nat.le_refl _) (Nat.le_refl _) (fun v sh' pt' z' h' hq => ?_)
  obtain ⟨rfl, rfl, rfl, rfl, rfl⟩ := hq
  exact k
theorem M_Sg_coder (hi : i < 7) : CtB ω N_Sg_coder 1 [aV ω (10 + (i : Int))] z h (some (iV 0)) h := by
  refine Ct_of (lv := [some (aV ω (10 + (i : Int)))]) (by decide) (Nat.le_trans (sl_1 (cat_aV _ _) sl_z) (Nat.le_of_ble_eq_true rfl)) (la_1 (cat_aV _ _) la_z) ?_
  refine ev_scomp (pc := 0) dJ0_coder_7d493_0 fls_38 ?_
  refine ev_if_eq (pc := 3) (tgt := 13) (A := none) (B := some ()) (C := some ()) (o := some ()) dJ0_coder_7d493_3 rfl rfl (by decide) (fun g => by cases g) (fun _ => ?_)
  refine ev_aload_n (pc := 6) (i := 0) dJ0_coder_7d493_6 rfl rfl ?_
  refine ev_scod (pc := 7) hi dJ0_coder_7d493_7 fls_15 ?_
  refine ev_goto (pc := 10) (tgt := 14) dJ0_coder_7d493_10 rfl ?_
  exact ev_nret (y := 0) (pc := 14) dJ0_coder_7d493_14 rfl (by decide) (Nat.le_refl _) (Nat.le_refl _) ⟨rfl, rfl, rfl, rfl, rfl⟩
theorem M_Sg_length (hi : i < 7) : CtB ω N_Sg_length 2 [aV ω (10 + (i : Int))] z h (some (iV ((kLen.getD i 0 : Nat) : Int))) h := by
  refine Ct_of (lv := [some (aV ω (10 + (i : Int)))]) (by decide) (Nat.le_trans (sl_1 (cat_aV _ _) sl_z) (Nat.le_of_ble_eq_true rfl)) (la_1 (cat_aV _ _) la_z) ?_
  refine ev_aload_n (pc := 0) (i := 0) dJ0_length_8abf5_0 rfl rfl ?_
  refine ev_sval (pc := 1) hi dJ0_length_8abf5_1 fls_9 ?_
  refine ev_slenA (pc := 4) hi dJ0_length_8abf5_4 ?_
  refine ev_aload_n (pc := 5) (i := 0) dJ0_length_8abf5_5 rfl rfl ?_
  refine evB_callStr (pc := 6) hi (M_Sg_coder hi) dJ0_length_8abf5_6 mt_Sg_coder st_Sg_coder mls_String_335 rfl (Nat.le_refl _) rfl rfl (Nat.le_trans (sm_1 (cat_iV _) sm_z) (by decide)) ?_
  refine ev_ishr (pc := 9) dJ0_length_8abf5_9 ?_
  have e : ishr ((kLen.getD i 0 : Nat) : Int) 0 = ((kLen.getD i 0 : Nat) : Int) := by
    have : ∀ i, i < 7 → ishr ((kLen.getD i 0 : Nat) : Int) 0 = ((kLen.getD i 0 : Nat) : Int) := by decide +kernel
    exact this i hi
  rw [e]
  exact evB_iret (pc := 10) dJ0_length_8abf5_10 rfl rfl
theorem M_Sg_isLatin1 (hi : i < 7) : CtB ω N_Sg_isLatin1 1 [aV ω (10 + (i : Int))] z h (some (iV 1)) h := by
  refine Ct_of (lv := [some (aV ω (10 + (i : Int)))]) (by decide) (Nat.le_trans (sl_1 (cat_aV _ _) sl_z) (Nat.le_of_ble_eq_true rfl)) (la_1 (cat_aV _ _) la_z) ?_
  refine ev_scomp (pc := 0) dJ0_isLatin1_aae02_0 fls_38 ?_
  refine ev_if_eq (pc := 3) (tgt := 17) (A := none) (B := some ()) (C := some ()) (o := some ()) dJ0_isLatin1_aae02_3 rfl rfl (by decide) (fun g => by cases g) (fun _ => ?_)
  refine ev_aload_n (pc := 6) (i := 0) dJ0_isLatin1_aae02_6 rfl rfl ?_
  refine ev_scod (pc := 7) hi dJ0_isLatin1_aae02_7 fls_15 ?_
  refine ev_if_ne (pc := 10) (tgt := 17) (A := some ()) (B := none) (C := some ()) (o := some ()) dJ0_isLatin1_aae02_10 rfl rfl (by decide) (fun _ => ?_) (fun g => by cases g)
  refine ev_iconst (pc := 13) dJ0_isLatin1_aae02_13 ?_
  refine ev_goto (pc := 14) (tgt := 18) dJ0_isLatin1_aae02_14 rfl ?_
  exact evB_zret (pc := 18) dJ0_isLatin1_aae02_18 rfl rfl rfl
theorem M_Pr_checkIndex {x n : Int} {v : Value} (hv : isA v) (h0 : 0 ≤ w32 x) (h1 : w32 x < w32 n) : CtB ω N_Pr_checkIndex 1 [iV x, iV n, v] z h (some (iV x)) h := by
  refine Ct_of (lv := [some (iV x), some (iV n), some v]) (by decide) (Nat.le_trans (sl_1 (cat_iV _) (sl_1 (cat_iV _) (sl_1 hv.cat sl_z))) (Nat.le_of_ble_eq_true rfl)) (la_1 (cat_iV _) (la_1 (cat_iV _) (la_1 hv.cat la_z))) ?_
  refine ev_iload_n (pc := 0) (i := 0) dJ3_checkIndex_8e157_0 rfl rfl ?_
  refine ev_if_lt (pc := 1) (tgt := 9) (A := none) (B := some ()) (C := some ()) (o := some ()) dJ3_checkIndex_8e157_1 rfl rfl (by rw [if_neg (by omega)]) (fun g => by cases g) (fun _ => ?_)
  refine ev_iload_n (pc := 4) (i := 0) dJ3_checkIndex_8e157_4 rfl rfl ?_
  refine ev_iload_n (pc := 5) (i := 1) dJ3_checkIndex_8e157_5 rfl rfl ?_
  refine ev_icmp_lt (pc := 6) (tgt := 16) (A := some ()) (B := none) (C := some ()) (o := some ()) dJ3_checkIndex_8e157_6 rfl rfl (by rw [if_pos h1]) (fun _ => ?_) (fun g => by cases g)
  refine ev_iload_n (pc := 16) (i := 0) dJ3_checkIndex_8e157_16 rfl rfl ?_
  exact evB_iret (pc := 17) dJ3_checkIndex_8e157_17 rfl rfl
theorem M_Sg_checkIndex {x n : Int} (h0 : 0 ≤ w32 x) (h1 : w32 x < w32 n) : CtB ω N_Sg_checkIndex 2 [iV x, iV n] z h none h := by
  refine Ct_of (lv := [some (iV x), some (iV n)]) (by decide) (Nat.le_trans (sl_1 (cat_iV _) (sl_1 (cat_iV _) sl_z)) (Nat.le_of_ble_eq_true rfl)) (la_1 (cat_iV _) (la_1 (cat_iV _) la_z)) ?_
  refine ev_iload_n (pc := 0) (i := 0) dJ0_checkIndex_df160_0 rfl rfl ?_
  refine ev_iload_n (pc := 1) (i := 1) dJ0_checkIndex_df160_1 rfl rfl ?_
  refine ev_sform (pc := 2) dJ0_checkIndex_df160_2 fls_1053 (fun v hv => ?_)
  refine evB_callS_I (pc := 5) (As := [iV x, iV n, v]) (M_Pr_checkIndex hv h0 h1) dJ0_checkIndex_df160_5 mt_Pr_checkIndex st_Pr_checkIndex mls_String_1059 (Nat.le_refl _) rfl rfl (Nat.le_trans sm_z (by decide)) ?_
  refine ev_pop (pc := 8) dJ0_checkIndex_df160_8 rfl ?_
  exact evB_vret (r := 0) (pc := 9) dJ0_checkIndex_df160_9 rfl rfl
theorem sch_ok (hi : i < 7) {j : Nat} (hj : j < kLen.getD i 0) : (((kByt.getD i []).getD j 0).toInt = iand ((kByt.getD i []).getD j 0).toInt 255) ∧ ((Int32.ofInt (((kByt.getD i []).getD j 0).toInt)).toUInt32 % 65536).toInt32 = Int32.ofInt (((kByt.getD i []).getD j 0).toInt) ∧ narrow .char (.int (Int32.ofInt (((kByt.getD i []).getD j 0).toInt))) = .int (Int32.ofInt (((kByt.getD i []).getD j 0).toInt)) := by
  have : ∀ i, i < 7 → ∀ j, j < kLen.getD i 0 → (((kByt.getD i []).getD j 0).toInt = iand ((kByt.getD i []).getD j 0).toInt 255) ∧ ((Int32.ofInt (((kByt.getD i []).getD j 0).toInt)).toUInt32 % 65536).toInt32 = Int32.ofInt (((kByt.getD i []).getD j 0).toInt) ∧ narrow .char (.int (Int32.ofInt (((kByt.getD i []).getD j 0).toInt))) = .int (Int32.ofInt (((kByt.getD i []).getD j 0).toInt)) := by decide +kernel
  exact this i hi j hj
theorem kLen_w (hi : i < 7) : w32 ((kLen.getD i 0 : Nat) : Int) = ((kLen.getD i 0 : Nat) : Int) := by
  have : ∀ i, i < 7 → w32 ((kLen.getD i 0 : Nat) : Int) = ((kLen.getD i 0 : Nat) : Int) := by decide +kernel
  exact this i hi
theorem M_Sl_charAt {x : Int} (hi : i < 7) (h0 : 0 ≤ w32 x) (h1 : w32 x < (kLen.getD i 0 : Nat)) : CtB ω N_Sl_charAt 3 [.ref (ω.2.2.2.2.1 i), iV x] z h (some (iV ((kByt.getD i []).getD (w32 x).toNat 0).toInt)) h := by
  have ok := sch_ok hi (j := (w32 x).toNat) (by omega)
  refine Ct_of (lv := [some (.ref (ω.2.2.2.2.1 i)), some (iV x)]) (by decide) (Nat.le_trans (sl_1 rfl (sl_1 (cat_iV _) sl_z)) (Nat.le_of_ble_eq_true rfl)) (la_1 rfl (la_1 (cat_iV _) la_z)) ?_
  refine ev_iload_n (pc := 0) (i := 1) dJ1_charAt_3b067_0 rfl rfl ?_
  refine ev_aload_nG (pc := 1) (i := 0) (Or.inr ⟨_, rfl⟩) dJ1_charAt_3b067_1 rfl rfl ?_
  refine ev_slenA (pc := 2) hi dJ1_charAt_3b067_2 ?_
  refine evB_callS_V (pc := 3) (As := [iV x, iV ((kLen.getD i 0 : Nat) : Int)]) (M_Sg_checkIndex h0 (by rw [kLen_w hi]; exact h1)) dJ1_charAt_3b067_3 mt_Sg_checkIndex st_Sg_checkIndex mls_StringLatin1_9 (Nat.le_refl _) rfl rfl (Nat.le_trans sm_z (by decide)) ?_
  refine ev_aload_nG (pc := 6) (i := 0) (Or.inr ⟨_, rfl⟩) dJ1_charAt_3b067_6 rfl rfl ?_
  refine ev_iload_n (pc := 7) (i := 1) dJ1_charAt_3b067_7 rfl rfl ?_
  refine ev_sbald (pc := 8) hi dJ1_charAt_3b067_8 h0 h1 ?_
  refine ev_sipush (pc := 9) dJ1_charAt_3b067_9 (by decide) ?_
  refine ev_iand (pc := 12) dJ1_charAt_3b067_12 ?_
  rw [← ok.1]
  refine ev_i2c (pc := 13) dJ1_charAt_3b067_13 (Or.inr ok.2.1) ?_
  exact ev_nret (pc := 14) dJ1_charAt_3b067_14 rfl ok.2.2 (Nat.le_refl _) (Nat.le_refl _) ⟨rfl, rfl, rfl, rfl, rfl⟩
theorem M_Sg_charAt {x : Int} (hi : i < 7) (h0 : 0 ≤ w32 x) (h1 : w32 x < (kLen.getD i 0 : Nat)) : CtB ω N_Sg_charAt 4 [aV ω (10 + (i : Int)), iV x] z h (some (iV ((kByt.getD i []).getD (w32 x).toNat 0).toInt)) h := by
  have ok := sch_ok hi (j := (w32 x).toNat) (by omega)
  refine Ct_of (lv := [some (aV ω (10 + (i : Int))), some (iV x)]) (by decide) (Nat.le_trans (sl_1 (cat_aV _ _) (sl_1 (cat_iV _) sl_z)) (Nat.le_of_ble_eq_true rfl)) (la_1 (cat_aV _ _) (la_1 (cat_iV _) la_z)) ?_
  refine ev_aload_n (pc := 0) (i := 0) dJ0_charAt_5068e_0 rfl rfl ?_
  refine evB_callStr (pc := 1) hi (M_Sg_isLatin1 hi) dJ0_charAt_5068e_1 mt_Sg_isLatin1 st_Sg_isLatin1 mls_String_492 rfl (Nat.le_of_ble_eq_true rfl) rfl rfl (Nat.le_trans sm_z (by decide)) ?_
  refine ev_if_eq (pc := 4) (tgt := 16) (A := none) (B := some ()) (C := some ()) (o := some ()) dJ0_charAt_5068e_4 rfl rfl (by decide) (fun g => by cases g) (fun _ => ?_)
  refine ev_aload_n (pc := 7) (i := 0) dJ0_charAt_5068e_7 rfl rfl ?_
  refine ev_sval (pc := 8) hi dJ0_charAt_5068e_8 fls_9 ?_
  refine ev_iload_n (pc := 11) (i := 1) dJ0_charAt_5068e_11 rfl rfl ?_
  refine evB_callS_I (pc := 12) (As := [.ref (ω.2.2.2.2.1 i), iV x]) (M_Sl_charAt hi h0 h1) dJ0_charAt_5068e_12 mt_Sl_charAt st_Sl_charAt mls_String_495 (Nat.le_refl _) rfl rfl (Nat.le_trans sm_z (by decide)) ?_
  exact ev_nret (pc := 15) dJ0_charAt_5068e_15 rfl ok.2.2 (Nat.le_refl _) (Nat.le_refl _) ⟨rfl, rfl, rfl, rfl, rfl⟩
theorem evB_slen {Q : Qt} {a : Int} {rest st0 : List Value} (hd : decode M.2.1 pc = .ok (.invokevirtual idx, 3)) (hL : ML M.1.cls idx N_Sg_length.1) (ha : 10 ≤ a ∧ a < 17) (h0 : st0 = aV ω a :: rest) (hw : (rest.map fun v => v.category).sum ≤ 8) (hd' : 5 ≤ d) (k : EvB ω M d Q z h (pc + 3) lv (iV (sln a) :: rest)) : EvB ω M d Q z h pc lv st0 := by
  obtain ⟨i, rfl⟩ : ∃ i : Nat, a = 10 + (i : Int) := ⟨(a - 10).toNat, by omega⟩
  have hi : i < 7 := by omega
  have e : sln (10 + (i : Int)) = ((kLen.getD i 0 : Nat) : Int) := by
    unfold sln
    rw [show (10 + (i : Int) - 10).toNat = i from by omega]
  rw [e] at k
  exact evB_callStr hi (M_Sg_length hi) hd mt_Sg_length st_Sg_length hL rfl (by omega) rfl h0 hw k
theorem evB_schr {Q : Qt} {a x : Int} {rest st0 : List Value} (hd : decode M.2.1 pc = .ok (.invokevirtual idx, 3)) (hL : ML M.1.cls idx N_Sg_charAt.1) (ha : 10 ≤ a ∧ a < 17 ∧ 0 ≤ w32 x ∧ w32 x < sln a) (h0 : st0 = iV x :: aV ω a :: rest) (hw : (rest.map fun v => v.category).sum ≤ 8) (hd' : 5 ≤ d) (k : EvB ω M d Q z h (pc + 3) lv (iV (sch a (w32 x)) :: rest)) : EvB ω M d Q z h pc lv st0 := by
  obtain ⟨i, rfl⟩ : ∃ i : Nat, a = 10 + (i : Int) := ⟨(a - 10).toNat, by omega⟩
  have hi : i < 7 := by omega
  have e1 : (10 + (i : Int) - 10).toNat = i := by omega
  have e2 : sch (10 + (i : Int)) (w32 x) = ((kByt.getD i []).getD (w32 x).toNat 0).toInt := by
    unfold sch
    rw [e1]
  have h4 := ha.2.2.2
  unfold sln at h4
  rw [e1] at h4
  rw [e2] at k
  exact evB_callStr (As := [iV x]) hi (M_Sg_charAt hi ha.2.2.1 h4) hd mt_Sg_charAt st_Sg_charAt hL rfl (by omega) rfl h0 hw k
end Str
