section Made
def QK (ω : Wd) (n t : Nat) (h : Hp) : Qt := fun v sh pt z h9 => v = none ∧ sh = sN n ∧ pt = pN t ∧ z = zz ω n ∧ h9 = h
theorem wo_i : Cond.instanceMethod objectInit ∈ WS := WS_of (w := Cond.instanceMethod objectInit) (List.mem_append_right _ (List.mem_append_left _ (List.mem_of_getElem? (i := 28) (by decide +kernel)))) (by decide +kernel)
theorem wo_c : Cond.code objectInit ⟨#[0xb1]⟩ 1 none ∈ WS := WS_of (w := Cond.code objectInit ⟨#[0xb1]⟩ 1 none) (List.mem_append_right _ (List.mem_append_left _ (List.mem_of_getElem? (i := 29) (by decide +kernel)))) (by decide +kernel)
theorem wa_int : Cond.arrayClass .int ∈ WS := WS_of (w := Cond.arrayClass .int) (List.mem_append_right _ (List.mem_append_left _ (List.mem_of_getElem? (i := 54) (by decide +kernel)))) (by decide +kernel)
theorem wa_byte : Cond.arrayClass .byte ∈ WS := WS_of (w := Cond.arrayClass .byte) (List.mem_append_right _ (List.mem_append_right _ (List.mem_append_right _ (List.mem_append_right _ (List.mem_append_right _ (List.mem_append_left _ (List.mem_of_getElem? (i := 125) (by decide +kernel)))))))) (by decide +kernel)
theorem wa_long : Cond.arrayClass .long ∈ WS := WS_of (w := Cond.arrayClass .long) (List.mem_append_right _ (List.mem_append_right _ (List.mem_append_right _ (List.mem_append_right _ (List.mem_append_right _ (List.mem_append_right _ (List.mem_append_left _ (List.mem_of_getElem? (i := 57) (by decide +kernel))))))))) (by decide +kernel)
theorem wa_boolean : Cond.arrayClass .boolean ∈ WS := WS_of (w := Cond.arrayClass .boolean) (List.mem_append_right _ (List.mem_append_left _ (List.mem_of_getElem? (i := 196) (by decide +kernel)))) (by decide +kernel)
theorem wo_Tp : Cond.methodLink RX8 3 objectInit ∈ WS := WS_of (w := Cond.methodLink RX8 3 objectInit) (List.mem_append_right _ (List.mem_append_left _ (List.mem_of_getElem? (i := 35) (by decide +kernel)))) (by decide +kernel)
theorem kf_Tp_11 : FL RX8 11 8 0 := ⟨(RX8, TX8, 4), rfl, by decide, WS_of (w := Cond.fieldLink RX8 11 (TX8 0).1 (TX8 0).2.1 (TX8 0).2.2.1) (List.mem_append_right _ (List.mem_append_left _ (List.mem_of_getElem? (i := 36) (by decide +kernel)))) (by decide +kernel)⟩
theorem kf_Tp_15 : FL RX8 15 8 1 := ⟨(RX8, TX8, 4), rfl, by decide, WS_of (w := Cond.fieldLink RX8 15 (TX8 1).1 (TX8 1).2.1 (TX8 1).2.2.1) (List.mem_append_right _ (List.mem_append_left _ (List.mem_of_getElem? (i := 37) (by decide +kernel)))) (by decide +kernel)⟩
theorem kf_Tp_19 : FL RX8 19 8 2 := ⟨(RX8, TX8, 4), rfl, by decide, WS_of (w := Cond.fieldLink RX8 19 (TX8 2).1 (TX8 2).2.1 (TX8 2).2.2.1) (List.mem_append_right _ (List.mem_append_left _ (List.mem_of_getElem? (i := 39) (by decide +kernel)))) (by decide +kernel)⟩
theorem kf_Tp_22 : FL RX8 22 8 3 := ⟨(RX8, TX8, 4), rfl, by decide, WS_of (w := Cond.fieldLink RX8 22 (TX8 3).1 (TX8 3).2.1 (TX8 3).2.2.1) (List.mem_append_right _ (List.mem_append_left _ (List.mem_of_getElem? (i := 43) (by decide +kernel)))) (by decide +kernel)⟩
theorem dX8_init_0 : decode cX8_init 0 = .ok (.aload_n 0, 1) := by decide +kernel
theorem dX8_init_1 : decode cX8_init 1 = .ok (.invokespecial 3, 3) := by decide +kernel
theorem dX8_init_4 : decode cX8_init 4 = .ok (.aload_n 0, 1) := by decide +kernel
theorem dX8_init_5 : decode cX8_init 5 = .ok (.sipush 240, 3) := by decide +kernel
theorem dX8_init_8 : decode cX8_init 8 = .ok (.newarray .int, 2) := by decide +kernel
theorem dX8_init_10 : decode cX8_init 10 = .ok (.putfield 11, 3) := by decide +kernel
theorem dX8_init_13 : decode cX8_init 13 = .ok (.aload_n 0, 1) := by decide +kernel
theorem dX8_init_14 : decode cX8_init 14 = .ok (.iconst 0, 1) := by decide +kernel
theorem dX8_init_15 : decode cX8_init 15 = .ok (.putfield 15, 3) := by decide +kernel
theorem dX8_init_18 : decode cX8_init 18 = .ok (.aload_n 0, 1) := by decide +kernel
theorem dX8_init_19 : decode cX8_init 19 = .ok (.iconst 0, 1) := by decide +kernel
theorem dX8_init_20 : decode cX8_init 20 = .ok (.putfield 19, 3) := by decide +kernel
theorem dX8_init_23 : decode cX8_init 23 = .ok (.aload_n 0, 1) := by decide +kernel
theorem dX8_init_24 : decode cX8_init 24 = .ok (.iconst (-1), 1) := by decide +kernel
theorem dX8_init_25 : decode cX8_init 25 = .ok (.putfield 22, 3) := by decide +kernel
theorem dX8_init_28 : decode cX8_init 28 = .ok (.return_, 1) := by decide +kernel
def N_Tp_init : Mt := (yX8_init, cX8_init, 1, none)
theorem mt_Tp_init : MT N_Tp_init 0 := ⟨WS_of (w := Cond.code yX8_init cX8_init 1 none) (List.mem_append_right _ (List.mem_append_left _ (List.mem_of_getElem? (i := 34) (by decide +kernel)))) (by decide +kernel), WS_of (w := Cond.initialized RX8) (List.mem_append_right _ (List.mem_append_left _ (List.mem_of_getElem? (i := 2) (by decide +kernel)))) (by decide +kernel), ⟨by decide, by decide, by decide +kernel⟩, by decide⟩
theorem st_Tp_init : Cond.instanceMethod N_Tp_init.1 ∈ WS ∧ N_Tp_init.1.name = "<init>" := ⟨WS_of (w := Cond.instanceMethod yX8_init) (List.mem_append_right _ (List.mem_append_left _ (List.mem_of_getElem? (i := 33) (by decide +kernel)))) (by decide +kernel), rfl⟩
abbrev F_Tp (n t : Nat) (x : Int) : Prop := 20 ≤ x ∧ orA x < n ∧ adA (orA x) = x ∧ n + 1 ≤ 331 ∧ t + 1 ≤ 328 ∧ SH x = (8, 0) ∧ adA n = x + 1 ∧ SH (x + 1) = (100, 240) ∧ asA t = (x, 0) ∧ PT x 0 = x + 1 ∧ tmA x 0 = t + 0
set_option maxRecDepth 100000 in
theorem K_Tp {ω : Wd} {n t : Nat} {x : Int} {h : Hp} (hω : OKw ω) (F : F_Tp n t x) (hz : ∀ b : Int, x ≤ b → b ≤ x + 1 → ∀ j, h b j = 0) : Ct ω N_Tp_init 1 [aV ω x] (sN n) (pN t) (zz ω n) h 1 240 (QK ω (n + 1) (t + 1) (up h x 3 (-1))) := by
  obtain ⟨f20, fo, fo2, fn, ftn, fsx, fa0, fs1, fe0, fp0, ft0⟩ := F
  have hs : ∀ i, (sN (n + i) x).1 = 8 := fun i => by rw [sN_is x (by omega) fo2, fsx]
  refine Ct_of (lv := [some (aV ω x)]) (by decide) (Nat.le_trans (sl_1 (cat_aV _ _) sl_z) (Nat.le_of_ble_eq_true rfl)) (la_1 (cat_aV _ _) la_z) ?_
  refine ev_aload_n (pc := 0) (i := 0) dX8_init_0 rfl rfl ?_
  refine ev_objInit (pc := 1) dX8_init_1 wo_Tp wo_i wo_c (by omega) (by decide) (by decide) ?_
  refine ev_aload_n (pc := 4) (i := 0) dX8_init_4 rfl rfl ?_
  refine ev_sipush (pc := 5) dX8_init_5 (by decide) ?_
  refine ev_newarr (pc := 8) (atype := .int) (a := x + 1) hω (by omega) fa0 dX8_init_8 wa_int (by rw [fs1]; rfl) (by rw [fs1]; decide) (by rw [fs1]; rfl) (by rw [fs1]; decide) (by decide) (by rw [fs1]; decide) (fun j => hz _ (by omega) (by omega) j) ?_
  rw [fs1]
  refine ev_putF (pc := 10) (c9 := 8) (k9 := 0) fe0 fp0 dX8_init_10 kf_Tp_11 (by decide) (hs 1) (by omega) (fun q hq => by cases hq; exact ⟨rfl, rfl⟩) rfl rfl rfl ?_
  refine ev_aload_n (pc := 13) (i := 0) dX8_init_13 rfl rfl ?_
  refine ev_iconst (pc := 14) dX8_init_14 ?_
  refine ev_putS (pc := 15) (c9 := 8) (k9 := 1) (x := 0) dX8_init_15 kf_Tp_15 (by decide) (hs 1) (by omega) (fun q hq => by cases hq; rfl) (Or.inl rfl) rfl (hz _ (by omega) (by omega) _) ?_
  refine ev_aload_n (pc := 18) (i := 0) dX8_init_18 rfl rfl ?_
  refine ev_iconst (pc := 19) dX8_init_19 ?_
  refine ev_putS (pc := 20) (c9 := 8) (k9 := 2) (x := 0) dX8_init_20 kf_Tp_19 (by decide) (hs 1) (by omega) (fun q hq => by cases hq; rfl) (Or.inl rfl) rfl (hz _ (by omega) (by omega) _) ?_
  refine ev_aload_n (pc := 23) (i := 0) dX8_init_23 rfl rfl ?_
  refine ev_iconst (pc := 24) dX8_init_24 ?_
  refine ev_putI (pc := 25) (c9 := 8) (k9 := 3) (x := (-1)) dX8_init_25 kf_Tp_22 (by decide) (hs 1) (by omega) (fun q hq => by cases hq; rfl) rfl rfl ?_
  exact ev_vret (pc := 28) dX8_init_28 rfl (by decide) (by decide) ⟨rfl, rfl, rfl, rfl, rfl⟩
theorem wo_Cy : Cond.methodLink RX0 3 objectInit ∈ WS := WS_of (w := Cond.methodLink RX0 3 objectInit) (List.mem_append_right _ (List.mem_append_left _ (List.mem_of_getElem? (i := 60) (by decide +kernel)))) (by decide +kernel)
theorem kf_Cy_9 : FL RX0 9 0 0 := ⟨(RX0, TX0, 6), rfl, by decide, WS_of (w := Cond.fieldLink RX0 9 (TX0 0).1 (TX0 0).2.1 (TX0 0).2.2.1) (List.mem_append_right _ (List.mem_append_left _ (List.mem_of_getElem? (i := 61) (by decide +kernel)))) (by decide +kernel)⟩
theorem kf_Cy_15 : FL RX0 15 0 1 := ⟨(RX0, TX0, 6), rfl, by decide, WS_of (w := Cond.fieldLink RX0 15 (TX0 1).1 (TX0 1).2.1 (TX0 1).2.2.1) (List.mem_append_right _ (List.mem_append_left _ (List.mem_of_getElem? (i := 62) (by decide +kernel)))) (by decide +kernel)⟩
theorem kf_Cy_18 : FL RX0 18 0 2 := ⟨(RX0, TX0, 6), rfl, by decide, WS_of (w := Cond.fieldLink RX0 18 (TX0 2).1 (TX0 2).2.1 (TX0 2).2.2.1) (List.mem_append_right _ (List.mem_append_left _ (List.mem_of_getElem? (i := 63) (by decide +kernel)))) (by decide +kernel)⟩
theorem kf_Cy_21 : FL RX0 21 0 3 := ⟨(RX0, TX0, 6), rfl, by decide, WS_of (w := Cond.fieldLink RX0 21 (TX0 3).1 (TX0 3).2.1 (TX0 3).2.2.1) (List.mem_append_right _ (List.mem_append_left _ (List.mem_of_getElem? (i := 64) (by decide +kernel)))) (by decide +kernel)⟩
theorem kf_Cy_25 : FL RX0 25 0 4 := ⟨(RX0, TX0, 6), rfl, by decide, WS_of (w := Cond.fieldLink RX0 25 (TX0 4).1 (TX0 4).2.1 (TX0 4).2.2.1) (List.mem_append_right _ (List.mem_append_left _ (List.mem_of_getElem? (i := 65) (by decide +kernel)))) (by decide +kernel)⟩
theorem kf_Cy_29 : FL RX0 29 0 5 := ⟨(RX0, TX0, 6), rfl, by decide, WS_of (w := Cond.fieldLink RX0 29 (TX0 5).1 (TX0 5).2.1 (TX0 5).2.2.1) (List.mem_append_right _ (List.mem_append_left _ (List.mem_of_getElem? (i := 68) (by decide +kernel)))) (by decide +kernel)⟩
theorem dX0_init_0 : decode cX0_init 0 = .ok (.aload_n 0, 1) := by decide +kernel
theorem dX0_init_1 : decode cX0_init 1 = .ok (.invokespecial 3, 3) := by decide +kernel
theorem dX0_init_4 : decode cX0_init 4 = .ok (.aload_n 0, 1) := by decide +kernel
theorem dX0_init_5 : decode cX0_init 5 = .ok (.iconst 3, 1) := by decide +kernel
theorem dX0_init_6 : decode cX0_init 6 = .ok (.newarray .int, 2) := by decide +kernel
theorem dX0_init_8 : decode cX0_init 8 = .ok (.putfield 9, 3) := by decide +kernel
theorem dX0_init_11 : decode cX0_init 11 = .ok (.aload_n 0, 1) := by decide +kernel
theorem dX0_init_12 : decode cX0_init 12 = .ok (.bipush 18, 2) := by decide +kernel
theorem dX0_init_14 : decode cX0_init 14 = .ok (.newarray .int, 2) := by decide +kernel
theorem dX0_init_16 : decode cX0_init 16 = .ok (.putfield 15, 3) := by decide +kernel
theorem dX0_init_19 : decode cX0_init 19 = .ok (.aload_n 0, 1) := by decide +kernel
theorem dX0_init_20 : decode cX0_init 20 = .ok (.bipush 24, 2) := by decide +kernel
theorem dX0_init_22 : decode cX0_init 22 = .ok (.newarray .int, 2) := by decide +kernel
theorem dX0_init_24 : decode cX0_init 24 = .ok (.putfield 18, 3) := by decide +kernel
theorem dX0_init_27 : decode cX0_init 27 = .ok (.aload_n 0, 1) := by decide +kernel
theorem dX0_init_28 : decode cX0_init 28 = .ok (.iconst 0, 1) := by decide +kernel
theorem dX0_init_29 : decode cX0_init 29 = .ok (.putfield 21, 3) := by decide +kernel
theorem dX0_init_32 : decode cX0_init 32 = .ok (.aload_n 0, 1) := by decide +kernel
theorem dX0_init_33 : decode cX0_init 33 = .ok (.iconst 0, 1) := by decide +kernel
theorem dX0_init_34 : decode cX0_init 34 = .ok (.putfield 25, 3) := by decide +kernel
theorem dX0_init_37 : decode cX0_init 37 = .ok (.aload_n 0, 1) := by decide +kernel
theorem dX0_init_38 : decode cX0_init 38 = .ok (.iconst 0, 1) := by decide +kernel
theorem dX0_init_39 : decode cX0_init 39 = .ok (.putfield 29, 3) := by decide +kernel
theorem dX0_init_42 : decode cX0_init 42 = .ok (.return_, 1) := by decide +kernel
def N_Cy_init : Mt := (yX0_init, cX0_init, 1, none)
theorem mt_Cy_init : MT N_Cy_init 0 := ⟨WS_of (w := Cond.code yX0_init cX0_init 1 none) (List.mem_append_right _ (List.mem_append_left _ (List.mem_of_getElem? (i := 59) (by decide +kernel)))) (by decide +kernel), WS_of (w := Cond.initialized RX0) (List.mem_append_right _ (List.mem_append_left _ (List.mem_of_getElem? (i := 3) (by decide +kernel)))) (by decide +kernel), ⟨by decide, by decide, by decide +kernel⟩, by decide⟩
theorem st_Cy_init : Cond.instanceMethod N_Cy_init.1 ∈ WS ∧ N_Cy_init.1.name = "<init>" := ⟨WS_of (w := Cond.instanceMethod yX0_init) (List.mem_append_right _ (List.mem_append_left _ (List.mem_of_getElem? (i := 58) (by decide +kernel)))) (by decide +kernel), rfl⟩
abbrev F_Cy (n t : Nat) (x : Int) : Prop := 20 ≤ x ∧ orA x < n ∧ adA (orA x) = x ∧ n + 3 ≤ 331 ∧ t + 3 ≤ 328 ∧ SH x = (0, 0) ∧ adA n = x + 1 ∧ SH (x + 1) = (100, 3) ∧ adA (n + 1) = x + 2 ∧ SH (x + 2) = (100, 18) ∧ adA (n + 2) = x + 3 ∧ SH (x + 3) = (100, 24) ∧ asA t = (x, 0) ∧ PT x 0 = x + 1 ∧ tmA x 0 = t + 0 ∧ asA (t + 1) = (x, 1) ∧ PT x 1 = x + 2 ∧ tmA x 1 = t + 1 ∧ asA (t + 2) = (x, 2) ∧ PT x 2 = x + 3 ∧ tmA x 2 = t + 2
set_option maxRecDepth 100000 in
theorem K_Cy {ω : Wd} {n t : Nat} {x : Int} {h : Hp} (hω : OKw ω) (F : F_Cy n t x) (hz : ∀ b : Int, x ≤ b → b ≤ x + 3 → ∀ j, h b j = 0) : Ct ω N_Cy_init 1 [aV ω x] (sN n) (pN t) (zz ω n) h 3 45 (QK ω (n + 3) (t + 3) h) := by
  obtain ⟨f20, fo, fo2, fn, ftn, fsx, fa0, fs1, fa1, fs2, fa2, fs3, fe0, fp0, ft0, fe1, fp1, ft1, fe2, fp2, ft2⟩ := F
  have hs : ∀ i, (sN (n + i) x).1 = 0 := fun i => by rw [sN_is x (by omega) fo2, fsx]
  refine Ct_of (lv := [some (aV ω x)]) (by decide) (Nat.le_trans (sl_1 (cat_aV _ _) sl_z) (Nat.le_of_ble_eq_true rfl)) (la_1 (cat_aV _ _) la_z) ?_
  refine ev_aload_n (pc := 0) (i := 0) dX0_init_0 rfl rfl ?_
  refine ev_objInit (pc := 1) dX0_init_1 wo_Cy wo_i wo_c (by omega) (by decide) (by decide) ?_
  refine ev_aload_n (pc := 4) (i := 0) dX0_init_4 rfl rfl ?_
  refine ev_iconst (pc := 5) dX0_init_5 ?_
  refine ev_newarr (pc := 6) (atype := .int) (a := x + 1) hω (by omega) fa0 dX0_init_6 wa_int (by rw [fs1]; rfl) (by rw [fs1]; decide) (by rw [fs1]; rfl) (by rw [fs1]; decide) (by decide) (by rw [fs1]; decide) (fun j => hz _ (by omega) (by omega) j) ?_
  rw [fs1]
  refine ev_putF (pc := 8) (c9 := 0) (k9 := 0) fe0 fp0 dX0_init_8 kf_Cy_9 (by decide) (hs 1) (by omega) (fun q hq => by cases hq; exact ⟨rfl, rfl⟩) rfl rfl rfl ?_
  refine ev_aload_n (pc := 11) (i := 0) dX0_init_11 rfl rfl ?_
  refine ev_bipush (pc := 12) dX0_init_12 (by decide) ?_
  refine ev_newarr (pc := 14) (atype := .int) (a := x + 2) hω (by omega) fa1 dX0_init_14 wa_int (by rw [fs2]; rfl) (by rw [fs2]; decide) (by rw [fs2]; rfl) (by rw [fs2]; decide) (by decide) (by rw [fs2]; decide) (fun j => hz _ (by omega) (by omega) j) ?_
  rw [fs2]
  refine ev_putF (pc := 16) (c9 := 0) (k9 := 1) fe1 fp1 dX0_init_16 kf_Cy_15 (by decide) (hs 2) (by omega) (fun q hq => by cases hq; exact ⟨rfl, rfl⟩) rfl rfl rfl ?_
  refine ev_aload_n (pc := 19) (i := 0) dX0_init_19 rfl rfl ?_
  refine ev_bipush (pc := 20) dX0_init_20 (by decide) ?_
  refine ev_newarr (pc := 22) (atype := .int) (a := x + 3) hω (by omega) fa2 dX0_init_22 wa_int (by rw [fs3]; rfl) (by rw [fs3]; decide) (by rw [fs3]; rfl) (by rw [fs3]; decide) (by decide) (by rw [fs3]; decide) (fun j => hz _ (by omega) (by omega) j) ?_
  rw [fs3]
  refine ev_putF (pc := 24) (c9 := 0) (k9 := 2) fe2 fp2 dX0_init_24 kf_Cy_18 (by decide) (hs 3) (by omega) (fun q hq => by cases hq; exact ⟨rfl, rfl⟩) rfl rfl rfl ?_
  refine ev_aload_n (pc := 27) (i := 0) dX0_init_27 rfl rfl ?_
  refine ev_iconst (pc := 28) dX0_init_28 ?_
  refine ev_putS (pc := 29) (c9 := 0) (k9 := 3) (x := 0) dX0_init_29 kf_Cy_21 (by decide) (hs 3) (by omega) (fun q hq => by cases hq; rfl) (Or.inr ⟨rfl, rfl⟩) rfl (hz _ (by omega) (by omega) _) ?_
  refine ev_aload_n (pc := 32) (i := 0) dX0_init_32 rfl rfl ?_
  refine ev_iconst (pc := 33) dX0_init_33 ?_
  refine ev_putS (pc := 34) (c9 := 0) (k9 := 4) (x := 0) dX0_init_34 kf_Cy_25 (by decide) (hs 3) (by omega) (fun q hq => by cases hq; rfl) (Or.inl rfl) rfl (hz _ (by omega) (by omega) _) ?_
  refine ev_aload_n (pc := 37) (i := 0) dX0_init_37 rfl rfl ?_
  refine ev_iconst (pc := 38) dX0_init_38 ?_
  refine ev_putS (pc := 39) (c9 := 0) (k9 := 5) (x := 0) dX0_init_39 kf_Cy_29 (by decide) (hs 3) (by omega) (fun q hq => by cases hq; rfl) (Or.inl rfl) rfl (hz _ (by omega) (by omega) _) ?_
  exact ev_vret (pc := 42) dX0_init_42 rfl (by decide) (by decide) ⟨rfl, rfl, rfl, rfl, rfl⟩
theorem wo_Lw : Cond.methodLink RX2 3 objectInit ∈ WS := WS_of (w := Cond.methodLink RX2 3 objectInit) (List.mem_append_right _ (List.mem_append_left _ (List.mem_of_getElem? (i := 221) (by decide +kernel)))) (by decide +kernel)
theorem kf_Lw_11 : FL RX2 11 2 0 := ⟨(RX2, TX2, 4), rfl, by decide, WS_of (w := Cond.fieldLink RX2 11 (TX2 0).1 (TX2 0).2.1 (TX2 0).2.2.1) (List.mem_append_right _ (List.mem_append_left _ (List.mem_of_getElem? (i := 222) (by decide +kernel)))) (by decide +kernel)⟩
theorem kf_Lw_15 : FL RX2 15 2 1 := ⟨(RX2, TX2, 4), rfl, by decide, WS_of (w := Cond.fieldLink RX2 15 (TX2 1).1 (TX2 1).2.1 (TX2 1).2.2.1) (List.mem_append_right _ (List.mem_append_left _ (List.mem_of_getElem? (i := 223) (by decide +kernel)))) (by decide +kernel)⟩
theorem kf_Lw_18 : FL RX2 18 2 2 := ⟨(RX2, TX2, 4), rfl, by decide, WS_of (w := Cond.fieldLink RX2 18 (TX2 2).1 (TX2 2).2.1 (TX2 2).2.2.1) (List.mem_append_right _ (List.mem_append_left _ (List.mem_of_getElem? (i := 224) (by decide +kernel)))) (by decide +kernel)⟩
theorem kf_Lw_22 : FL RX2 22 2 3 := ⟨(RX2, TX2, 4), rfl, by decide, WS_of (w := Cond.fieldLink RX2 22 (TX2 3).1 (TX2 3).2.1 (TX2 3).2.2.1) (List.mem_append_right _ (List.mem_append_left _ (List.mem_of_getElem? (i := 225) (by decide +kernel)))) (by decide +kernel)⟩
theorem dX2_init_0 : decode cX2_init 0 = .ok (.aload_n 0, 1) := by decide +kernel
theorem dX2_init_1 : decode cX2_init 1 = .ok (.invokespecial 3, 3) := by decide +kernel
theorem dX2_init_4 : decode cX2_init 4 = .ok (.aload_n 0, 1) := by decide +kernel
theorem dX2_init_5 : decode cX2_init 5 = .ok (.sipush 256, 3) := by decide +kernel
theorem dX2_init_8 : decode cX2_init 8 = .ok (.newarray .int, 2) := by decide +kernel
theorem dX2_init_10 : decode cX2_init 10 = .ok (.putfield 11, 3) := by decide +kernel
theorem dX2_init_13 : decode cX2_init 13 = .ok (.aload_n 0, 1) := by decide +kernel
theorem dX2_init_14 : decode cX2_init 14 = .ok (.bipush 64, 2) := by decide +kernel
theorem dX2_init_16 : decode cX2_init 16 = .ok (.newarray .int, 2) := by decide +kernel
theorem dX2_init_18 : decode cX2_init 18 = .ok (.putfield 15, 3) := by decide +kernel
theorem dX2_init_21 : decode cX2_init 21 = .ok (.aload_n 0, 1) := by decide +kernel
theorem dX2_init_22 : decode cX2_init 22 = .ok (.iconst 0, 1) := by decide +kernel
theorem dX2_init_23 : decode cX2_init 23 = .ok (.putfield 18, 3) := by decide +kernel
theorem dX2_init_26 : decode cX2_init 26 = .ok (.aload_n 0, 1) := by decide +kernel
theorem dX2_init_27 : decode cX2_init 27 = .ok (.iconst 0, 1) := by decide +kernel
theorem dX2_init_28 : decode cX2_init 28 = .ok (.putfield 22, 3) := by decide +kernel
theorem dX2_init_31 : decode cX2_init 31 = .ok (.return_, 1) := by decide +kernel
def N_Lw_init : Mt := (yX2_init, cX2_init, 1, none)
theorem mt_Lw_init : MT N_Lw_init 0 := ⟨WS_of (w := Cond.code yX2_init cX2_init 1 none) (List.mem_append_right _ (List.mem_append_left _ (List.mem_of_getElem? (i := 220) (by decide +kernel)))) (by decide +kernel), WS_of (w := Cond.initialized RX2) (List.mem_append_right _ (List.mem_append_left _ (List.mem_of_getElem? (i := 9) (by decide +kernel)))) (by decide +kernel), ⟨by decide, by decide, by decide +kernel⟩, by decide⟩
theorem st_Lw_init : Cond.instanceMethod N_Lw_init.1 ∈ WS ∧ N_Lw_init.1.name = "<init>" := ⟨WS_of (w := Cond.instanceMethod yX2_init) (List.mem_append_right _ (List.mem_append_left _ (List.mem_of_getElem? (i := 219) (by decide +kernel)))) (by decide +kernel), rfl⟩
abbrev F_Lw (n t : Nat) (x : Int) : Prop := 20 ≤ x ∧ orA x < n ∧ adA (orA x) = x ∧ n + 2 ≤ 331 ∧ t + 2 ≤ 328 ∧ SH x = (2, 0) ∧ adA n = x + 1 ∧ SH (x + 1) = (100, 256) ∧ adA (n + 1) = x + 2 ∧ SH (x + 2) = (100, 64) ∧ asA t = (x, 0) ∧ PT x 0 = x + 1 ∧ tmA x 0 = t + 0 ∧ asA (t + 1) = (x, 1) ∧ PT x 1 = x + 2 ∧ tmA x 1 = t + 1
set_option maxRecDepth 100000 in
theorem K_Lw {ω : Wd} {n t : Nat} {x : Int} {h : Hp} (hω : OKw ω) (F : F_Lw n t x) (hz : ∀ b : Int, x ≤ b → b ≤ x + 2 → ∀ j, h b j = 0) : Ct ω N_Lw_init 1 [aV ω x] (sN n) (pN t) (zz ω n) h 2 320 (QK ω (n + 2) (t + 2) h) := by
  obtain ⟨f20, fo, fo2, fn, ftn, fsx, fa0, fs1, fa1, fs2, fe0, fp0, ft0, fe1, fp1, ft1⟩ := F
  have hs : ∀ i, (sN (n + i) x).1 = 2 := fun i => by rw [sN_is x (by omega) fo2, fsx]
  refine Ct_of (lv := [some (aV ω x)]) (by decide) (Nat.le_trans (sl_1 (cat_aV _ _) sl_z) (Nat.le_of_ble_eq_true rfl)) (la_1 (cat_aV _ _) la_z) ?_
  refine ev_aload_n (pc := 0) (i := 0) dX2_init_0 rfl rfl ?_
  refine ev_objInit (pc := 1) dX2_init_1 wo_Lw wo_i wo_c (by omega) (by decide) (by decide) ?_
  refine ev_aload_n (pc := 4) (i := 0) dX2_init_4 rfl rfl ?_
  refine ev_sipush (pc := 5) dX2_init_5 (by decide) ?_
  refine ev_newarr (pc := 8) (atype := .int) (a := x + 1) hω (by omega) fa0 dX2_init_8 wa_int (by rw [fs1]; rfl) (by rw [fs1]; decide) (by rw [fs1]; rfl) (by rw [fs1]; decide) (by decide) (by rw [fs1]; decide) (fun j => hz _ (by omega) (by omega) j) ?_
  rw [fs1]
  refine ev_putF (pc := 10) (c9 := 2) (k9 := 0) fe0 fp0 dX2_init_10 kf_Lw_11 (by decide) (hs 1) (by omega) (fun q hq => by cases hq; exact ⟨rfl, rfl⟩) rfl rfl rfl ?_
  refine ev_aload_n (pc := 13) (i := 0) dX2_init_13 rfl rfl ?_
  refine ev_bipush (pc := 14) dX2_init_14 (by decide) ?_
  refine ev_newarr (pc := 16) (atype := .int) (a := x + 2) hω (by omega) fa1 dX2_init_16 wa_int (by rw [fs2]; rfl) (by rw [fs2]; decide) (by rw [fs2]; rfl) (by rw [fs2]; decide) (by decide) (by rw [fs2]; decide) (fun j => hz _ (by omega) (by omega) j) ?_
  rw [fs2]
  refine ev_putF (pc := 18) (c9 := 2) (k9 := 1) fe1 fp1 dX2_init_18 kf_Lw_15 (by decide) (hs 2) (by omega) (fun q hq => by cases hq; exact ⟨rfl, rfl⟩) rfl rfl rfl ?_
  refine ev_aload_n (pc := 21) (i := 0) dX2_init_21 rfl rfl ?_
  refine ev_iconst (pc := 22) dX2_init_22 ?_
  refine ev_putS (pc := 23) (c9 := 2) (k9 := 2) (x := 0) dX2_init_23 kf_Lw_18 (by decide) (hs 2) (by omega) (fun q hq => by cases hq; rfl) (Or.inl rfl) rfl (hz _ (by omega) (by omega) _) ?_
  refine ev_aload_n (pc := 26) (i := 0) dX2_init_26 rfl rfl ?_
  refine ev_iconst (pc := 27) dX2_init_27 ?_
  refine ev_putS (pc := 28) (c9 := 2) (k9 := 3) (x := 0) dX2_init_28 kf_Lw_22 (by decide) (hs 2) (by omega) (fun q hq => by cases hq; rfl) (Or.inl rfl) rfl (hz _ (by omega) (by omega) _) ?_
  exact ev_vret (pc := 31) dX2_init_31 rfl (by decide) (by decide) ⟨rfl, rfl, rfl, rfl, rfl⟩
theorem wo_Ss : Cond.methodLink RX6 3 objectInit ∈ WS := WS_of (w := Cond.methodLink RX6 3 objectInit) (List.mem_append_right _ (List.mem_append_left _ (List.mem_of_getElem? (i := 239) (by decide +kernel)))) (by decide +kernel)
theorem kf_Ss_9 : FL RX6 9 6 0 := ⟨(RX6, TX6, 2), rfl, by decide, WS_of (w := Cond.fieldLink RX6 9 (TX6 0).1 (TX6 0).2.1 (TX6 0).2.2.1) (List.mem_append_right _ (List.mem_append_right _ (List.mem_append_left _ (List.mem_of_getElem? (i := 0) (by decide +kernel))))) (by decide +kernel)⟩
theorem kf_Ss_15 : FL RX6 15 6 1 := ⟨(RX6, TX6, 2), rfl, by decide, WS_of (w := Cond.fieldLink RX6 15 (TX6 1).1 (TX6 1).2.1 (TX6 1).2.2.1) (List.mem_append_right _ (List.mem_append_right _ (List.mem_append_left _ (List.mem_of_getElem? (i := 1) (by decide +kernel))))) (by decide +kernel)⟩
theorem dX6_init_0 : decode cX6_init 0 = .ok (.aload_n 0, 1) := by decide +kernel
theorem dX6_init_1 : decode cX6_init 1 = .ok (.invokespecial 3, 3) := by decide +kernel
theorem dX6_init_4 : decode cX6_init 4 = .ok (.aload_n 0, 1) := by decide +kernel
theorem dX6_init_5 : decode cX6_init 5 = .ok (.bipush 48, 2) := by decide +kernel
theorem dX6_init_7 : decode cX6_init 7 = .ok (.newarray .int, 2) := by decide +kernel
theorem dX6_init_9 : decode cX6_init 9 = .ok (.putfield 9, 3) := by decide +kernel
theorem dX6_init_12 : decode cX6_init 12 = .ok (.aload_n 0, 1) := by decide +kernel
theorem dX6_init_13 : decode cX6_init 13 = .ok (.iconst 0, 1) := by decide +kernel
theorem dX6_init_14 : decode cX6_init 14 = .ok (.putfield 15, 3) := by decide +kernel
theorem dX6_init_17 : decode cX6_init 17 = .ok (.return_, 1) := by decide +kernel
def N_Ss_init : Mt := (yX6_init, cX6_init, 1, none)
theorem mt_Ss_init : MT N_Ss_init 0 := ⟨WS_of (w := Cond.code yX6_init cX6_init 1 none) (List.mem_append_right _ (List.mem_append_left _ (List.mem_of_getElem? (i := 238) (by decide +kernel)))) (by decide +kernel), WS_of (w := Cond.initialized RX6) (List.mem_append_right _ (List.mem_append_left _ (List.mem_of_getElem? (i := 10) (by decide +kernel)))) (by decide +kernel), ⟨by decide, by decide, by decide +kernel⟩, by decide⟩
theorem st_Ss_init : Cond.instanceMethod N_Ss_init.1 ∈ WS ∧ N_Ss_init.1.name = "<init>" := ⟨WS_of (w := Cond.instanceMethod yX6_init) (List.mem_append_right _ (List.mem_append_left _ (List.mem_of_getElem? (i := 237) (by decide +kernel)))) (by decide +kernel), rfl⟩
abbrev F_Ss (n t : Nat) (x : Int) : Prop := 20 ≤ x ∧ orA x < n ∧ adA (orA x) = x ∧ n + 1 ≤ 331 ∧ t + 1 ≤ 328 ∧ SH x = (6, 0) ∧ adA n = x + 1 ∧ SH (x + 1) = (100, 48) ∧ asA t = (x, 0) ∧ PT x 0 = x + 1 ∧ tmA x 0 = t + 0
set_option maxRecDepth 100000 in
theorem K_Ss {ω : Wd} {n t : Nat} {x : Int} {h : Hp} (hω : OKw ω) (F : F_Ss n t x) (hz : ∀ b : Int, x ≤ b → b ≤ x + 1 → ∀ j, h b j = 0) : Ct ω N_Ss_init 1 [aV ω x] (sN n) (pN t) (zz ω n) h 1 48 (QK ω (n + 1) (t + 1) h) := by
  obtain ⟨f20, fo, fo2, fn, ftn, fsx, fa0, fs1, fe0, fp0, ft0⟩ := F
  have hs : ∀ i, (sN (n + i) x).1 = 6 := fun i => by rw [sN_is x (by omega) fo2, fsx]
  refine Ct_of (lv := [some (aV ω x)]) (by decide) (Nat.le_trans (sl_1 (cat_aV _ _) sl_z) (Nat.le_of_ble_eq_true rfl)) (la_1 (cat_aV _ _) la_z) ?_
  refine ev_aload_n (pc := 0) (i := 0) dX6_init_0 rfl rfl ?_
  refine ev_objInit (pc := 1) dX6_init_1 wo_Ss wo_i wo_c (by omega) (by decide) (by decide) ?_
  refine ev_aload_n (pc := 4) (i := 0) dX6_init_4 rfl rfl ?_
  refine ev_bipush (pc := 5) dX6_init_5 (by decide) ?_
  refine ev_newarr (pc := 7) (atype := .int) (a := x + 1) hω (by omega) fa0 dX6_init_7 wa_int (by rw [fs1]; rfl) (by rw [fs1]; decide) (by rw [fs1]; rfl) (by rw [fs1]; decide) (by decide) (by rw [fs1]; decide) (fun j => hz _ (by omega) (by omega) j) ?_
  rw [fs1]
  refine ev_putF (pc := 9) (c9 := 6) (k9 := 0) fe0 fp0 dX6_init_9 kf_Ss_9 (by decide) (hs 1) (by omega) (fun q hq => by cases hq; exact ⟨rfl, rfl⟩) rfl rfl rfl ?_
  refine ev_aload_n (pc := 12) (i := 0) dX6_init_12 rfl rfl ?_
  refine ev_iconst (pc := 13) dX6_init_13 ?_
  refine ev_putS (pc := 14) (c9 := 6) (k9 := 1) (x := 0) dX6_init_14 kf_Ss_15 (by decide) (hs 1) (by omega) (fun q hq => by cases hq; rfl) (Or.inl rfl) rfl (hz _ (by omega) (by omega) _) ?_
  exact ev_vret (pc := 17) dX6_init_17 rfl (by decide) (by decide) ⟨rfl, rfl, rfl, rfl, rfl⟩
theorem wo_St : Cond.methodLink RX7 3 objectInit ∈ WS := WS_of (w := Cond.methodLink RX7 3 objectInit) (List.mem_append_right _ (List.mem_append_left _ (List.mem_of_getElem? (i := 92) (by decide +kernel)))) (by decide +kernel)
theorem kf_St_9 : FL RX7 9 7 0 := ⟨(RX7, TX7, 11), rfl, by decide, WS_of (w := Cond.fieldLink RX7 9 (TX7 0).1 (TX7 0).2.1 (TX7 0).2.2.1) (List.mem_append_right _ (List.mem_append_left _ (List.mem_of_getElem? (i := 93) (by decide +kernel)))) (by decide +kernel)⟩
theorem kf_St_15 : FL RX7 15 7 1 := ⟨(RX7, TX7, 11), rfl, by decide, WS_of (w := Cond.fieldLink RX7 15 (TX7 1).1 (TX7 1).2.1 (TX7 1).2.2.1) (List.mem_append_right _ (List.mem_append_left _ (List.mem_of_getElem? (i := 94) (by decide +kernel)))) (by decide +kernel)⟩
theorem kf_St_18 : FL RX7 18 7 2 := ⟨(RX7, TX7, 11), rfl, by decide, WS_of (w := Cond.fieldLink RX7 18 (TX7 2).1 (TX7 2).2.1 (TX7 2).2.2.1) (List.mem_append_right _ (List.mem_append_left _ (List.mem_of_getElem? (i := 95) (by decide +kernel)))) (by decide +kernel)⟩
theorem kf_St_21 : FL RX7 21 7 3 := ⟨(RX7, TX7, 11), rfl, by decide, WS_of (w := Cond.fieldLink RX7 21 (TX7 3).1 (TX7 3).2.1 (TX7 3).2.2.1) (List.mem_append_right _ (List.mem_append_left _ (List.mem_of_getElem? (i := 97) (by decide +kernel)))) (by decide +kernel)⟩
theorem kf_St_24 : FL RX7 24 7 4 := ⟨(RX7, TX7, 11), rfl, by decide, WS_of (w := Cond.fieldLink RX7 24 (TX7 4).1 (TX7 4).2.1 (TX7 4).2.2.1) (List.mem_append_right _ (List.mem_append_left _ (List.mem_of_getElem? (i := 99) (by decide +kernel)))) (by decide +kernel)⟩
theorem kf_St_28 : FL RX7 28 7 5 := ⟨(RX7, TX7, 11), rfl, by decide, WS_of (w := Cond.fieldLink RX7 28 (TX7 5).1 (TX7 5).2.1 (TX7 5).2.2.1) (List.mem_append_right _ (List.mem_append_left _ (List.mem_of_getElem? (i := 101) (by decide +kernel)))) (by decide +kernel)⟩
theorem kf_St_31 : FL RX7 31 7 6 := ⟨(RX7, TX7, 11), rfl, by decide, WS_of (w := Cond.fieldLink RX7 31 (TX7 6).1 (TX7 6).2.1 (TX7 6).2.2.1) (List.mem_append_right _ (List.mem_append_left _ (List.mem_of_getElem? (i := 103) (by decide +kernel)))) (by decide +kernel)⟩
theorem kf_St_34 : FL RX7 34 7 7 := ⟨(RX7, TX7, 11), rfl, by decide, WS_of (w := Cond.fieldLink RX7 34 (TX7 7).1 (TX7 7).2.1 (TX7 7).2.2.1) (List.mem_append_right _ (List.mem_append_left _ (List.mem_of_getElem? (i := 105) (by decide +kernel)))) (by decide +kernel)⟩
theorem kf_St_37 : FL RX7 37 7 8 := ⟨(RX7, TX7, 11), rfl, by decide, WS_of (w := Cond.fieldLink RX7 37 (TX7 8).1 (TX7 8).2.1 (TX7 8).2.2.1) (List.mem_append_right _ (List.mem_append_left _ (List.mem_of_getElem? (i := 107) (by decide +kernel)))) (by decide +kernel)⟩
theorem kf_St_40 : FL RX7 40 7 9 := ⟨(RX7, TX7, 11), rfl, by decide, WS_of (w := Cond.fieldLink RX7 40 (TX7 9).1 (TX7 9).2.1 (TX7 9).2.2.1) (List.mem_append_right _ (List.mem_append_left _ (List.mem_of_getElem? (i := 110) (by decide +kernel)))) (by decide +kernel)⟩
theorem kf_St_43 : FL RX7 43 7 10 := ⟨(RX7, TX7, 11), rfl, by decide, WS_of (w := Cond.fieldLink RX7 43 (TX7 10).1 (TX7 10).2.1 (TX7 10).2.2.1) (List.mem_append_right _ (List.mem_append_left _ (List.mem_of_getElem? (i := 113) (by decide +kernel)))) (by decide +kernel)⟩
theorem dX7_init_0 : decode cX7_init 0 = .ok (.aload_n 0, 1) := by decide +kernel
theorem dX7_init_1 : decode cX7_init 1 = .ok (.invokespecial 3, 3) := by decide +kernel
theorem dX7_init_4 : decode cX7_init 4 = .ok (.aload_n 0, 1) := by decide +kernel
theorem dX7_init_5 : decode cX7_init 5 = .ok (.bipush 36, 2) := by decide +kernel
theorem dX7_init_7 : decode cX7_init 7 = .ok (.newarray .int, 2) := by decide +kernel
theorem dX7_init_9 : decode cX7_init 9 = .ok (.putfield 9, 3) := by decide +kernel
theorem dX7_init_12 : decode cX7_init 12 = .ok (.aload_n 0, 1) := by decide +kernel
theorem dX7_init_13 : decode cX7_init 13 = .ok (.bipush 6, 2) := by decide +kernel
theorem dX7_init_15 : decode cX7_init 15 = .ok (.newarray .int, 2) := by decide +kernel
theorem dX7_init_17 : decode cX7_init 17 = .ok (.putfield 15, 3) := by decide +kernel
theorem dX7_init_20 : decode cX7_init 20 = .ok (.aload_n 0, 1) := by decide +kernel
theorem dX7_init_21 : decode cX7_init 21 = .ok (.bipush 6, 2) := by decide +kernel
theorem dX7_init_23 : decode cX7_init 23 = .ok (.newarray .int, 2) := by decide +kernel
theorem dX7_init_25 : decode cX7_init 25 = .ok (.putfield 18, 3) := by decide +kernel
theorem dX7_init_28 : decode cX7_init 28 = .ok (.aload_n 0, 1) := by decide +kernel
theorem dX7_init_29 : decode cX7_init 29 = .ok (.bipush 6, 2) := by decide +kernel
theorem dX7_init_31 : decode cX7_init 31 = .ok (.newarray .int, 2) := by decide +kernel
theorem dX7_init_33 : decode cX7_init 33 = .ok (.putfield 21, 3) := by decide +kernel
theorem dX7_init_36 : decode cX7_init 36 = .ok (.aload_n 0, 1) := by decide +kernel
theorem dX7_init_37 : decode cX7_init 37 = .ok (.iconst 0, 1) := by decide +kernel
theorem dX7_init_38 : decode cX7_init 38 = .ok (.putfield 24, 3) := by decide +kernel
theorem dX7_init_41 : decode cX7_init 41 = .ok (.aload_n 0, 1) := by decide +kernel
theorem dX7_init_42 : decode cX7_init 42 = .ok (.iconst 0, 1) := by decide +kernel
theorem dX7_init_43 : decode cX7_init 43 = .ok (.putfield 28, 3) := by decide +kernel
theorem dX7_init_46 : decode cX7_init 46 = .ok (.aload_n 0, 1) := by decide +kernel
theorem dX7_init_47 : decode cX7_init 47 = .ok (.iconst 0, 1) := by decide +kernel
theorem dX7_init_48 : decode cX7_init 48 = .ok (.putfield 31, 3) := by decide +kernel
theorem dX7_init_51 : decode cX7_init 51 = .ok (.aload_n 0, 1) := by decide +kernel
theorem dX7_init_52 : decode cX7_init 52 = .ok (.iconst 0, 1) := by decide +kernel
theorem dX7_init_53 : decode cX7_init 53 = .ok (.putfield 34, 3) := by decide +kernel
theorem dX7_init_56 : decode cX7_init 56 = .ok (.aload_n 0, 1) := by decide +kernel
theorem dX7_init_57 : decode cX7_init 57 = .ok (.iconst 0, 1) := by decide +kernel
theorem dX7_init_58 : decode cX7_init 58 = .ok (.putfield 37, 3) := by decide +kernel
theorem dX7_init_61 : decode cX7_init 61 = .ok (.aload_n 0, 1) := by decide +kernel
theorem dX7_init_62 : decode cX7_init 62 = .ok (.iconst 0, 1) := by decide +kernel
theorem dX7_init_63 : decode cX7_init 63 = .ok (.putfield 40, 3) := by decide +kernel
theorem dX7_init_66 : decode cX7_init 66 = .ok (.aload_n 0, 1) := by decide +kernel
theorem dX7_init_67 : decode cX7_init 67 = .ok (.iconst 0, 1) := by decide +kernel
theorem dX7_init_68 : decode cX7_init 68 = .ok (.putfield 43, 3) := by decide +kernel
theorem dX7_init_71 : decode cX7_init 71 = .ok (.return_, 1) := by decide +kernel
def N_St_init : Mt := (yX7_init, cX7_init, 1, none)
theorem mt_St_init : MT N_St_init 0 := ⟨WS_of (w := Cond.code yX7_init cX7_init 1 none) (List.mem_append_right _ (List.mem_append_left _ (List.mem_of_getElem? (i := 91) (by decide +kernel)))) (by decide +kernel), WS_of (w := Cond.initialized RX7) (List.mem_append_right _ (List.mem_append_left _ (List.mem_of_getElem? (i := 4) (by decide +kernel)))) (by decide +kernel), ⟨by decide, by decide, by decide +kernel⟩, by decide⟩
theorem st_St_init : Cond.instanceMethod N_St_init.1 ∈ WS ∧ N_St_init.1.name = "<init>" := ⟨WS_of (w := Cond.instanceMethod yX7_init) (List.mem_append_right _ (List.mem_append_left _ (List.mem_of_getElem? (i := 90) (by decide +kernel)))) (by decide +kernel), rfl⟩
abbrev F_St (n t : Nat) (x : Int) : Prop := 20 ≤ x ∧ orA x < n ∧ adA (orA x) = x ∧ n + 4 ≤ 331 ∧ t + 4 ≤ 328 ∧ SH x = (7, 0) ∧ adA n = x + 1 ∧ SH (x + 1) = (100, 36) ∧ adA (n + 1) = x + 2 ∧ SH (x + 2) = (100, 6) ∧ adA (n + 2) = x + 3 ∧ SH (x + 3) = (100, 6) ∧ adA (n + 3) = x + 4 ∧ SH (x + 4) = (100, 6) ∧ asA t = (x, 0) ∧ PT x 0 = x + 1 ∧ tmA x 0 = t + 0 ∧ asA (t + 1) = (x, 1) ∧ PT x 1 = x + 2 ∧ tmA x 1 = t + 1 ∧ asA (t + 2) = (x, 2) ∧ PT x 2 = x + 3 ∧ tmA x 2 = t + 2 ∧ asA (t + 3) = (x, 3) ∧ PT x 3 = x + 4 ∧ tmA x 3 = t + 3
set_option maxRecDepth 100000 in
theorem K_St {ω : Wd} {n t : Nat} {x : Int} {h : Hp} (hω : OKw ω) (F : F_St n t x) (hz : ∀ b : Int, x ≤ b → b ≤ x + 4 → ∀ j, h b j = 0) : Ct ω N_St_init 1 [aV ω x] (sN n) (pN t) (zz ω n) h 4 54 (QK ω (n + 4) (t + 4) h) := by
  obtain ⟨f20, fo, fo2, fn, ftn, fsx, fa0, fs1, fa1, fs2, fa2, fs3, fa3, fs4, fe0, fp0, ft0, fe1, fp1, ft1, fe2, fp2, ft2, fe3, fp3, ft3⟩ := F
  have hs : ∀ i, (sN (n + i) x).1 = 7 := fun i => by rw [sN_is x (by omega) fo2, fsx]
  refine Ct_of (lv := [some (aV ω x)]) (by decide) (Nat.le_trans (sl_1 (cat_aV _ _) sl_z) (Nat.le_of_ble_eq_true rfl)) (la_1 (cat_aV _ _) la_z) ?_
  refine ev_aload_n (pc := 0) (i := 0) dX7_init_0 rfl rfl ?_
  refine ev_objInit (pc := 1) dX7_init_1 wo_St wo_i wo_c (by omega) (by decide) (by decide) ?_
  refine ev_aload_n (pc := 4) (i := 0) dX7_init_4 rfl rfl ?_
  refine ev_bipush (pc := 5) dX7_init_5 (by decide) ?_
  refine ev_newarr (pc := 7) (atype := .int) (a := x + 1) hω (by omega) fa0 dX7_init_7 wa_int (by rw [fs1]; rfl) (by rw [fs1]; decide) (by rw [fs1]; rfl) (by rw [fs1]; decide) (by decide) (by rw [fs1]; decide) (fun j => hz _ (by omega) (by omega) j) ?_
  rw [fs1]
  refine ev_putF (pc := 9) (c9 := 7) (k9 := 0) fe0 fp0 dX7_init_9 kf_St_9 (by decide) (hs 1) (by omega) (fun q hq => by cases hq; exact ⟨rfl, rfl⟩) rfl rfl rfl ?_
  refine ev_aload_n (pc := 12) (i := 0) dX7_init_12 rfl rfl ?_
  refine ev_bipush (pc := 13) dX7_init_13 (by decide) ?_
  refine ev_newarr (pc := 15) (atype := .int) (a := x + 2) hω (by omega) fa1 dX7_init_15 wa_int (by rw [fs2]; rfl) (by rw [fs2]; decide) (by rw [fs2]; rfl) (by rw [fs2]; decide) (by decide) (by rw [fs2]; decide) (fun j => hz _ (by omega) (by omega) j) ?_
  rw [fs2]
  refine ev_putF (pc := 17) (c9 := 7) (k9 := 1) fe1 fp1 dX7_init_17 kf_St_15 (by decide) (hs 2) (by omega) (fun q hq => by cases hq; exact ⟨rfl, rfl⟩) rfl rfl rfl ?_
  refine ev_aload_n (pc := 20) (i := 0) dX7_init_20 rfl rfl ?_
  refine ev_bipush (pc := 21) dX7_init_21 (by decide) ?_
  refine ev_newarr (pc := 23) (atype := .int) (a := x + 3) hω (by omega) fa2 dX7_init_23 wa_int (by rw [fs3]; rfl) (by rw [fs3]; decide) (by rw [fs3]; rfl) (by rw [fs3]; decide) (by decide) (by rw [fs3]; decide) (fun j => hz _ (by omega) (by omega) j) ?_
  rw [fs3]
  refine ev_putF (pc := 25) (c9 := 7) (k9 := 2) fe2 fp2 dX7_init_25 kf_St_18 (by decide) (hs 3) (by omega) (fun q hq => by cases hq; exact ⟨rfl, rfl⟩) rfl rfl rfl ?_
  refine ev_aload_n (pc := 28) (i := 0) dX7_init_28 rfl rfl ?_
  refine ev_bipush (pc := 29) dX7_init_29 (by decide) ?_
  refine ev_newarr (pc := 31) (atype := .int) (a := x + 4) hω (by omega) fa3 dX7_init_31 wa_int (by rw [fs4]; rfl) (by rw [fs4]; decide) (by rw [fs4]; rfl) (by rw [fs4]; decide) (by decide) (by rw [fs4]; decide) (fun j => hz _ (by omega) (by omega) j) ?_
  rw [fs4]
  refine ev_putF (pc := 33) (c9 := 7) (k9 := 3) fe3 fp3 dX7_init_33 kf_St_21 (by decide) (hs 4) (by omega) (fun q hq => by cases hq; exact ⟨rfl, rfl⟩) rfl rfl rfl ?_
  refine ev_aload_n (pc := 36) (i := 0) dX7_init_36 rfl rfl ?_
  refine ev_iconst (pc := 37) dX7_init_37 ?_
  refine ev_putS (pc := 38) (c9 := 7) (k9 := 4) (x := 0) dX7_init_38 kf_St_24 (by decide) (hs 4) (by omega) (fun q hq => by cases hq; rfl) (Or.inl rfl) rfl (hz _ (by omega) (by omega) _) ?_
  refine ev_aload_n (pc := 41) (i := 0) dX7_init_41 rfl rfl ?_
  refine ev_iconst (pc := 42) dX7_init_42 ?_
  refine ev_putS (pc := 43) (c9 := 7) (k9 := 5) (x := 0) dX7_init_43 kf_St_28 (by decide) (hs 4) (by omega) (fun q hq => by cases hq; rfl) (Or.inl rfl) rfl (hz _ (by omega) (by omega) _) ?_
  refine ev_aload_n (pc := 46) (i := 0) dX7_init_46 rfl rfl ?_
  refine ev_iconst (pc := 47) dX7_init_47 ?_
  refine ev_putS (pc := 48) (c9 := 7) (k9 := 6) (x := 0) dX7_init_48 kf_St_31 (by decide) (hs 4) (by omega) (fun q hq => by cases hq; rfl) (Or.inl rfl) rfl (hz _ (by omega) (by omega) _) ?_
  refine ev_aload_n (pc := 51) (i := 0) dX7_init_51 rfl rfl ?_
  refine ev_iconst (pc := 52) dX7_init_52 ?_
  refine ev_putS (pc := 53) (c9 := 7) (k9 := 7) (x := 0) dX7_init_53 kf_St_34 (by decide) (hs 4) (by omega) (fun q hq => by cases hq; rfl) (Or.inl rfl) rfl (hz _ (by omega) (by omega) _) ?_
  refine ev_aload_n (pc := 56) (i := 0) dX7_init_56 rfl rfl ?_
  refine ev_iconst (pc := 57) dX7_init_57 ?_
  refine ev_putS (pc := 58) (c9 := 7) (k9 := 8) (x := 0) dX7_init_58 kf_St_37 (by decide) (hs 4) (by omega) (fun q hq => by cases hq; rfl) (Or.inl rfl) rfl (hz _ (by omega) (by omega) _) ?_
  refine ev_aload_n (pc := 61) (i := 0) dX7_init_61 rfl rfl ?_
  refine ev_iconst (pc := 62) dX7_init_62 ?_
  refine ev_putS (pc := 63) (c9 := 7) (k9 := 9) (x := 0) dX7_init_63 kf_St_40 (by decide) (hs 4) (by omega) (fun q hq => by cases hq; rfl) (Or.inl rfl) rfl (hz _ (by omega) (by omega) _) ?_
  refine ev_aload_n (pc := 66) (i := 0) dX7_init_66 rfl rfl ?_
  refine ev_iconst (pc := 67) dX7_init_67 ?_
  refine ev_putS (pc := 68) (c9 := 7) (k9 := 10) (x := 0) dX7_init_68 kf_St_43 (by decide) (hs 4) (by omega) (fun q hq => by cases hq; rfl) (Or.inl rfl) rfl (hz _ (by omega) (by omega) _) ?_
  exact ev_vret (pc := 71) dX7_init_71 rfl (by decide) (by decide) ⟨rfl, rfl, rfl, rfl, rfl⟩
theorem wo_Lg : Cond.methodLink RX3 3 objectInit ∈ WS := WS_of (w := Cond.methodLink RX3 3 objectInit) (List.mem_append_right _ (List.mem_append_left _ (List.mem_of_getElem? (i := 164) (by decide +kernel)))) (by decide +kernel)
theorem kf_Lg_9 : FL RX3 9 3 0 := ⟨(RX3, TX3, 2), rfl, by decide, WS_of (w := Cond.fieldLink RX3 9 (TX3 0).1 (TX3 0).2.1 (TX3 0).2.2.1) (List.mem_append_right _ (List.mem_append_left _ (List.mem_of_getElem? (i := 165) (by decide +kernel)))) (by decide +kernel)⟩
theorem kf_Lg_15 : FL RX3 15 3 1 := ⟨(RX3, TX3, 2), rfl, by decide, WS_of (w := Cond.fieldLink RX3 15 (TX3 1).1 (TX3 1).2.1 (TX3 1).2.2.1) (List.mem_append_right _ (List.mem_append_left _ (List.mem_of_getElem? (i := 166) (by decide +kernel)))) (by decide +kernel)⟩
theorem dX3_init_0 : decode cX3_init 0 = .ok (.aload_n 0, 1) := by decide +kernel
theorem dX3_init_1 : decode cX3_init 1 = .ok (.invokespecial 3, 3) := by decide +kernel
theorem dX3_init_4 : decode cX3_init 4 = .ok (.aload_n 0, 1) := by decide +kernel
theorem dX3_init_5 : decode cX3_init 5 = .ok (.sipush 1000, 3) := by decide +kernel
theorem dX3_init_8 : decode cX3_init 8 = .ok (.newarray .int, 2) := by decide +kernel
theorem dX3_init_10 : decode cX3_init 10 = .ok (.putfield 9, 3) := by decide +kernel
theorem dX3_init_13 : decode cX3_init 13 = .ok (.aload_n 0, 1) := by decide +kernel
theorem dX3_init_14 : decode cX3_init 14 = .ok (.bipush 60, 2) := by decide +kernel
theorem dX3_init_16 : decode cX3_init 16 = .ok (.newarray .int, 2) := by decide +kernel
theorem dX3_init_18 : decode cX3_init 18 = .ok (.putfield 15, 3) := by decide +kernel
theorem dX3_init_21 : decode cX3_init 21 = .ok (.return_, 1) := by decide +kernel
def N_Lg_init : Mt := (yX3_init, cX3_init, 1, none)
theorem mt_Lg_init : MT N_Lg_init 0 := ⟨WS_of (w := Cond.code yX3_init cX3_init 1 none) (List.mem_append_right _ (List.mem_append_left _ (List.mem_of_getElem? (i := 163) (by decide +kernel)))) (by decide +kernel), WS_of (w := Cond.initialized RX3) (List.mem_append_right _ (List.mem_append_left _ (List.mem_of_getElem? (i := 6) (by decide +kernel)))) (by decide +kernel), ⟨by decide, by decide, by decide +kernel⟩, by decide⟩
theorem st_Lg_init : Cond.instanceMethod N_Lg_init.1 ∈ WS ∧ N_Lg_init.1.name = "<init>" := ⟨WS_of (w := Cond.instanceMethod yX3_init) (List.mem_append_right _ (List.mem_append_left _ (List.mem_of_getElem? (i := 162) (by decide +kernel)))) (by decide +kernel), rfl⟩
abbrev F_Lg (n t : Nat) (x : Int) : Prop := 20 ≤ x ∧ orA x < n ∧ adA (orA x) = x ∧ n + 2 ≤ 331 ∧ t + 2 ≤ 328 ∧ SH x = (3, 0) ∧ adA n = x + 1 ∧ SH (x + 1) = (100, 1000) ∧ adA (n + 1) = x + 2 ∧ SH (x + 2) = (100, 60) ∧ asA t = (x, 0) ∧ PT x 0 = x + 1 ∧ tmA x 0 = t + 0 ∧ asA (t + 1) = (x, 1) ∧ PT x 1 = x + 2 ∧ tmA x 1 = t + 1
set_option maxRecDepth 100000 in
theorem K_Lg {ω : Wd} {n t : Nat} {x : Int} {h : Hp} (hω : OKw ω) (F : F_Lg n t x) (hz : ∀ b : Int, x ≤ b → b ≤ x + 2 → ∀ j, h b j = 0) : Ct ω N_Lg_init 1 [aV ω x] (sN n) (pN t) (zz ω n) h 2 1060 (QK ω (n + 2) (t + 2) h) := by
  obtain ⟨f20, fo, fo2, fn, ftn, fsx, fa0, fs1, fa1, fs2, fe0, fp0, ft0, fe1, fp1, ft1⟩ := F
  have hs : ∀ i, (sN (n + i) x).1 = 3 := fun i => by rw [sN_is x (by omega) fo2, fsx]
  refine Ct_of (lv := [some (aV ω x)]) (by decide) (Nat.le_trans (sl_1 (cat_aV _ _) sl_z) (Nat.le_of_ble_eq_true rfl)) (la_1 (cat_aV _ _) la_z) ?_
  refine ev_aload_n (pc := 0) (i := 0) dX3_init_0 rfl rfl ?_
  refine ev_objInit (pc := 1) dX3_init_1 wo_Lg wo_i wo_c (by omega) (by decide) (by decide) ?_
  refine ev_aload_n (pc := 4) (i := 0) dX3_init_4 rfl rfl ?_
  refine ev_sipush (pc := 5) dX3_init_5 (by decide) ?_
  refine ev_newarr (pc := 8) (atype := .int) (a := x + 1) hω (by omega) fa0 dX3_init_8 wa_int (by rw [fs1]; rfl) (by rw [fs1]; decide) (by rw [fs1]; rfl) (by rw [fs1]; decide) (by decide) (by rw [fs1]; decide) (fun j => hz _ (by omega) (by omega) j) ?_
  rw [fs1]
  refine ev_putF (pc := 10) (c9 := 3) (k9 := 0) fe0 fp0 dX3_init_10 kf_Lg_9 (by decide) (hs 1) (by omega) (fun q hq => by cases hq; exact ⟨rfl, rfl⟩) rfl rfl rfl ?_
  refine ev_aload_n (pc := 13) (i := 0) dX3_init_13 rfl rfl ?_
  refine ev_bipush (pc := 14) dX3_init_14 (by decide) ?_
  refine ev_newarr (pc := 16) (atype := .int) (a := x + 2) hω (by omega) fa1 dX3_init_16 wa_int (by rw [fs2]; rfl) (by rw [fs2]; decide) (by rw [fs2]; rfl) (by rw [fs2]; decide) (by decide) (by rw [fs2]; decide) (fun j => hz _ (by omega) (by omega) j) ?_
  rw [fs2]
  refine ev_putF (pc := 18) (c9 := 3) (k9 := 1) fe1 fp1 dX3_init_18 kf_Lg_15 (by decide) (hs 2) (by omega) (fun q hq => by cases hq; exact ⟨rfl, rfl⟩) rfl rfl rfl ?_
  exact ev_vret (pc := 21) dX3_init_21 rfl (by decide) (by decide) ⟨rfl, rfl, rfl, rfl, rfl⟩
theorem wo_Gv : Cond.methodLink RX1 3 objectInit ∈ WS := WS_of (w := Cond.methodLink RX1 3 objectInit) (List.mem_append_right _ (List.mem_append_left _ (List.mem_of_getElem? (i := 177) (by decide +kernel)))) (by decide +kernel)
theorem kf_Gv_9 : FL RX1 9 1 0 := ⟨(RX1, TX1, 5), rfl, by decide, WS_of (w := Cond.fieldLink RX1 9 (TX1 0).1 (TX1 0).2.1 (TX1 0).2.2.1) (List.mem_append_right _ (List.mem_append_left _ (List.mem_of_getElem? (i := 178) (by decide +kernel)))) (by decide +kernel)⟩
theorem kf_Gv_15 : FL RX1 15 1 1 := ⟨(RX1, TX1, 5), rfl, by decide, WS_of (w := Cond.fieldLink RX1 15 (TX1 1).1 (TX1 1).2.1 (TX1 1).2.2.1) (List.mem_append_right _ (List.mem_append_left _ (List.mem_of_getElem? (i := 179) (by decide +kernel)))) (by decide +kernel)⟩
theorem kf_Gv_18 : FL RX1 18 1 2 := ⟨(RX1, TX1, 5), rfl, by decide, WS_of (w := Cond.fieldLink RX1 18 (TX1 2).1 (TX1 2).2.1 (TX1 2).2.2.1) (List.mem_append_right _ (List.mem_append_left _ (List.mem_of_getElem? (i := 180) (by decide +kernel)))) (by decide +kernel)⟩
theorem kf_Gv_22 : FL RX1 22 1 3 := ⟨(RX1, TX1, 5), rfl, by decide, WS_of (w := Cond.fieldLink RX1 22 (TX1 3).1 (TX1 3).2.1 (TX1 3).2.2.1) (List.mem_append_right _ (List.mem_append_left _ (List.mem_of_getElem? (i := 181) (by decide +kernel)))) (by decide +kernel)⟩
theorem kf_Gv_25 : FL RX1 25 1 4 := ⟨(RX1, TX1, 5), rfl, by decide, WS_of (w := Cond.fieldLink RX1 25 (TX1 4).1 (TX1 4).2.1 (TX1 4).2.2.1) (List.mem_append_right _ (List.mem_append_left _ (List.mem_of_getElem? (i := 183) (by decide +kernel)))) (by decide +kernel)⟩
theorem dX1_init_0 : decode cX1_init 0 = .ok (.aload_n 0, 1) := by decide +kernel
theorem dX1_init_1 : decode cX1_init 1 = .ok (.invokespecial 3, 3) := by decide +kernel
theorem dX1_init_4 : decode cX1_init 4 = .ok (.aload_n 0, 1) := by decide +kernel
theorem dX1_init_5 : decode cX1_init 5 = .ok (.bipush 10, 2) := by decide +kernel
theorem dX1_init_7 : decode cX1_init 7 = .ok (.newarray .int, 2) := by decide +kernel
theorem dX1_init_9 : decode cX1_init 9 = .ok (.putfield 9, 3) := by decide +kernel
theorem dX1_init_12 : decode cX1_init 12 = .ok (.aload_n 0, 1) := by decide +kernel
theorem dX1_init_13 : decode cX1_init 13 = .ok (.bipush 10, 2) := by decide +kernel
theorem dX1_init_15 : decode cX1_init 15 = .ok (.newarray .int, 2) := by decide +kernel
theorem dX1_init_17 : decode cX1_init 17 = .ok (.putfield 15, 3) := by decide +kernel
theorem dX1_init_20 : decode cX1_init 20 = .ok (.aload_n 0, 1) := by decide +kernel
theorem dX1_init_21 : decode cX1_init 21 = .ok (.bipush 10, 2) := by decide +kernel
theorem dX1_init_23 : decode cX1_init 23 = .ok (.newarray .boolean, 2) := by decide +kernel
theorem dX1_init_25 : decode cX1_init 25 = .ok (.putfield 18, 3) := by decide +kernel
theorem dX1_init_28 : decode cX1_init 28 = .ok (.aload_n 0, 1) := by decide +kernel
theorem dX1_init_29 : decode cX1_init 29 = .ok (.bipush 10, 2) := by decide +kernel
theorem dX1_init_31 : decode cX1_init 31 = .ok (.newarray .int, 2) := by decide +kernel
theorem dX1_init_33 : decode cX1_init 33 = .ok (.putfield 22, 3) := by decide +kernel
theorem dX1_init_36 : decode cX1_init 36 = .ok (.aload_n 0, 1) := by decide +kernel
theorem dX1_init_37 : decode cX1_init 37 = .ok (.iconst 0, 1) := by decide +kernel
theorem dX1_init_38 : decode cX1_init 38 = .ok (.putfield 25, 3) := by decide +kernel
theorem dX1_init_41 : decode cX1_init 41 = .ok (.return_, 1) := by decide +kernel
def N_Gv_init : Mt := (yX1_init, cX1_init, 1, none)
theorem mt_Gv_init : MT N_Gv_init 0 := ⟨WS_of (w := Cond.code yX1_init cX1_init 1 none) (List.mem_append_right _ (List.mem_append_left _ (List.mem_of_getElem? (i := 176) (by decide +kernel)))) (by decide +kernel), WS_of (w := Cond.initialized RX1) (List.mem_append_right _ (List.mem_append_left _ (List.mem_of_getElem? (i := 7) (by decide +kernel)))) (by decide +kernel), ⟨by decide, by decide, by decide +kernel⟩, by decide⟩
theorem st_Gv_init : Cond.instanceMethod N_Gv_init.1 ∈ WS ∧ N_Gv_init.1.name = "<init>" := ⟨WS_of (w := Cond.instanceMethod yX1_init) (List.mem_append_right _ (List.mem_append_left _ (List.mem_of_getElem? (i := 175) (by decide +kernel)))) (by decide +kernel), rfl⟩
abbrev F_Gv (n t : Nat) (x : Int) : Prop := 20 ≤ x ∧ orA x < n ∧ adA (orA x) = x ∧ n + 4 ≤ 331 ∧ t + 4 ≤ 328 ∧ SH x = (1, 0) ∧ adA n = x + 1 ∧ SH (x + 1) = (100, 10) ∧ adA (n + 1) = x + 2 ∧ SH (x + 2) = (100, 10) ∧ adA (n + 2) = x + 3 ∧ SH (x + 3) = (103, 10) ∧ adA (n + 3) = x + 4 ∧ SH (x + 4) = (100, 10) ∧ asA t = (x, 0) ∧ PT x 0 = x + 1 ∧ tmA x 0 = t + 0 ∧ asA (t + 1) = (x, 1) ∧ PT x 1 = x + 2 ∧ tmA x 1 = t + 1 ∧ asA (t + 2) = (x, 2) ∧ PT x 2 = x + 3 ∧ tmA x 2 = t + 2 ∧ asA (t + 3) = (x, 3) ∧ PT x 3 = x + 4 ∧ tmA x 3 = t + 3
set_option maxRecDepth 100000 in
theorem K_Gv {ω : Wd} {n t : Nat} {x : Int} {h : Hp} (hω : OKw ω) (F : F_Gv n t x) (hz : ∀ b : Int, x ≤ b → b ≤ x + 4 → ∀ j, h b j = 0) : Ct ω N_Gv_init 1 [aV ω x] (sN n) (pN t) (zz ω n) h 4 40 (QK ω (n + 4) (t + 4) h) := by
  obtain ⟨f20, fo, fo2, fn, ftn, fsx, fa0, fs1, fa1, fs2, fa2, fs3, fa3, fs4, fe0, fp0, ft0, fe1, fp1, ft1, fe2, fp2, ft2, fe3, fp3, ft3⟩ := F
  have hs : ∀ i, (sN (n + i) x).1 = 1 := fun i => by rw [sN_is x (by omega) fo2, fsx]
  refine Ct_of (lv := [some (aV ω x)]) (by decide) (Nat.le_trans (sl_1 (cat_aV _ _) sl_z) (Nat.le_of_ble_eq_true rfl)) (la_1 (cat_aV _ _) la_z) ?_
  refine ev_aload_n (pc := 0) (i := 0) dX1_init_0 rfl rfl ?_
  refine ev_objInit (pc := 1) dX1_init_1 wo_Gv wo_i wo_c (by omega) (by decide) (by decide) ?_
  refine ev_aload_n (pc := 4) (i := 0) dX1_init_4 rfl rfl ?_
  refine ev_bipush (pc := 5) dX1_init_5 (by decide) ?_
  refine ev_newarr (pc := 7) (atype := .int) (a := x + 1) hω (by omega) fa0 dX1_init_7 wa_int (by rw [fs1]; rfl) (by rw [fs1]; decide) (by rw [fs1]; rfl) (by rw [fs1]; decide) (by decide) (by rw [fs1]; decide) (fun j => hz _ (by omega) (by omega) j) ?_
  rw [fs1]
  refine ev_putF (pc := 9) (c9 := 1) (k9 := 0) fe0 fp0 dX1_init_9 kf_Gv_9 (by decide) (hs 1) (by omega) (fun q hq => by cases hq; exact ⟨rfl, rfl⟩) rfl rfl rfl ?_
  refine ev_aload_n (pc := 12) (i := 0) dX1_init_12 rfl rfl ?_
  refine ev_bipush (pc := 13) dX1_init_13 (by decide) ?_
  refine ev_newarr (pc := 15) (atype := .int) (a := x + 2) hω (by omega) fa1 dX1_init_15 wa_int (by rw [fs2]; rfl) (by rw [fs2]; decide) (by rw [fs2]; rfl) (by rw [fs2]; decide) (by decide) (by rw [fs2]; decide) (fun j => hz _ (by omega) (by omega) j) ?_
  rw [fs2]
  refine ev_putF (pc := 17) (c9 := 1) (k9 := 1) fe1 fp1 dX1_init_17 kf_Gv_15 (by decide) (hs 2) (by omega) (fun q hq => by cases hq; exact ⟨rfl, rfl⟩) rfl rfl rfl ?_
  refine ev_aload_n (pc := 20) (i := 0) dX1_init_20 rfl rfl ?_
  refine ev_bipush (pc := 21) dX1_init_21 (by decide) ?_
  refine ev_newarr (pc := 23) (atype := .boolean) (a := x + 3) hω (by omega) fa2 dX1_init_23 wa_boolean (by rw [fs3]; rfl) (by rw [fs3]; decide) (by rw [fs3]; rfl) (by rw [fs3]; decide) (by decide) (by rw [fs3]; decide) (fun j => hz _ (by omega) (by omega) j) ?_
  rw [fs3]
  refine ev_putF (pc := 25) (c9 := 1) (k9 := 2) fe2 fp2 dX1_init_25 kf_Gv_18 (by decide) (hs 3) (by omega) (fun q hq => by cases hq; exact ⟨rfl, rfl⟩) rfl rfl rfl ?_
  refine ev_aload_n (pc := 28) (i := 0) dX1_init_28 rfl rfl ?_
  refine ev_bipush (pc := 29) dX1_init_29 (by decide) ?_
  refine ev_newarr (pc := 31) (atype := .int) (a := x + 4) hω (by omega) fa3 dX1_init_31 wa_int (by rw [fs4]; rfl) (by rw [fs4]; decide) (by rw [fs4]; rfl) (by rw [fs4]; decide) (by decide) (by rw [fs4]; decide) (fun j => hz _ (by omega) (by omega) j) ?_
  rw [fs4]
  refine ev_putF (pc := 33) (c9 := 1) (k9 := 3) fe3 fp3 dX1_init_33 kf_Gv_22 (by decide) (hs 4) (by omega) (fun q hq => by cases hq; exact ⟨rfl, rfl⟩) rfl rfl rfl ?_
  refine ev_aload_n (pc := 36) (i := 0) dX1_init_36 rfl rfl ?_
  refine ev_iconst (pc := 37) dX1_init_37 ?_
  refine ev_putS (pc := 38) (c9 := 1) (k9 := 4) (x := 0) dX1_init_38 kf_Gv_25 (by decide) (hs 4) (by omega) (fun q hq => by cases hq; rfl) (Or.inl rfl) rfl (hz _ (by omega) (by omega) _) ?_
  exact ev_vret (pc := 41) dX1_init_41 rfl (by decide) (by decide) ⟨rfl, rfl, rfl, rfl, rfl⟩
theorem wo_Rw : Cond.methodLink RX5 3 objectInit ∈ WS := WS_of (w := Cond.methodLink RX5 3 objectInit) (List.mem_append_right _ (List.mem_append_left _ (List.mem_of_getElem? (i := 202) (by decide +kernel)))) (by decide +kernel)
theorem kf_Rw_9 : FL RX5 9 5 0 := ⟨(RX5, TX5, 4), rfl, by decide, WS_of (w := Cond.fieldLink RX5 9 (TX5 0).1 (TX5 0).2.1 (TX5 0).2.2.1) (List.mem_append_right _ (List.mem_append_left _ (List.mem_of_getElem? (i := 203) (by decide +kernel)))) (by decide +kernel)⟩
theorem kf_Rw_15 : FL RX5 15 5 1 := ⟨(RX5, TX5, 4), rfl, by decide, WS_of (w := Cond.fieldLink RX5 15 (TX5 1).1 (TX5 1).2.1 (TX5 1).2.2.1) (List.mem_append_right _ (List.mem_append_left _ (List.mem_of_getElem? (i := 204) (by decide +kernel)))) (by decide +kernel)⟩
theorem kf_Rw_18 : FL RX5 18 5 2 := ⟨(RX5, TX5, 4), rfl, by decide, WS_of (w := Cond.fieldLink RX5 18 (TX5 2).1 (TX5 2).2.1 (TX5 2).2.2.1) (List.mem_append_right _ (List.mem_append_left _ (List.mem_of_getElem? (i := 205) (by decide +kernel)))) (by decide +kernel)⟩
theorem kf_Rw_22 : FL RX5 22 5 3 := ⟨(RX5, TX5, 4), rfl, by decide, WS_of (w := Cond.fieldLink RX5 22 (TX5 3).1 (TX5 3).2.1 (TX5 3).2.2.1) (List.mem_append_right _ (List.mem_append_left _ (List.mem_of_getElem? (i := 207) (by decide +kernel)))) (by decide +kernel)⟩
theorem dX5_init_0 : decode cX5_init 0 = .ok (.aload_n 0, 1) := by decide +kernel
theorem dX5_init_1 : decode cX5_init 1 = .ok (.invokespecial 3, 3) := by decide +kernel
theorem dX5_init_4 : decode cX5_init 4 = .ok (.aload_n 0, 1) := by decide +kernel
theorem dX5_init_5 : decode cX5_init 5 = .ok (.bipush 76, 2) := by decide +kernel
theorem dX5_init_7 : decode cX5_init 7 = .ok (.newarray .int, 2) := by decide +kernel
theorem dX5_init_9 : decode cX5_init 9 = .ok (.putfield 9, 3) := by decide +kernel
theorem dX5_init_12 : decode cX5_init 12 = .ok (.aload_n 0, 1) := by decide +kernel
theorem dX5_init_13 : decode cX5_init 13 = .ok (.bipush 6, 2) := by decide +kernel
theorem dX5_init_15 : decode cX5_init 15 = .ok (.newarray .int, 2) := by decide +kernel
theorem dX5_init_17 : decode cX5_init 17 = .ok (.putfield 15, 3) := by decide +kernel
theorem dX5_init_20 : decode cX5_init 20 = .ok (.aload_n 0, 1) := by decide +kernel
theorem dX5_init_21 : decode cX5_init 21 = .ok (.iconst 0, 1) := by decide +kernel
theorem dX5_init_22 : decode cX5_init 22 = .ok (.putfield 18, 3) := by decide +kernel
theorem dX5_init_25 : decode cX5_init 25 = .ok (.aload_n 0, 1) := by decide +kernel
theorem dX5_init_26 : decode cX5_init 26 = .ok (.iconst 0, 1) := by decide +kernel
theorem dX5_init_27 : decode cX5_init 27 = .ok (.putfield 22, 3) := by decide +kernel
theorem dX5_init_30 : decode cX5_init 30 = .ok (.return_, 1) := by decide +kernel
def N_Rw_init : Mt := (yX5_init, cX5_init, 1, none)
theorem mt_Rw_init : MT N_Rw_init 0 := ⟨WS_of (w := Cond.code yX5_init cX5_init 1 none) (List.mem_append_right _ (List.mem_append_left _ (List.mem_of_getElem? (i := 201) (by decide +kernel)))) (by decide +kernel), WS_of (w := Cond.initialized RX5) (List.mem_append_right _ (List.mem_append_left _ (List.mem_of_getElem? (i := 8) (by decide +kernel)))) (by decide +kernel), ⟨by decide, by decide, by decide +kernel⟩, by decide⟩
theorem st_Rw_init : Cond.instanceMethod N_Rw_init.1 ∈ WS ∧ N_Rw_init.1.name = "<init>" := ⟨WS_of (w := Cond.instanceMethod yX5_init) (List.mem_append_right _ (List.mem_append_left _ (List.mem_of_getElem? (i := 200) (by decide +kernel)))) (by decide +kernel), rfl⟩
abbrev F_Rw (n t : Nat) (x : Int) : Prop := 20 ≤ x ∧ orA x < n ∧ adA (orA x) = x ∧ n + 2 ≤ 331 ∧ t + 2 ≤ 328 ∧ SH x = (5, 0) ∧ adA n = x + 1 ∧ SH (x + 1) = (100, 76) ∧ adA (n + 1) = x + 2 ∧ SH (x + 2) = (100, 6) ∧ asA t = (x, 0) ∧ PT x 0 = x + 1 ∧ tmA x 0 = t + 0 ∧ asA (t + 1) = (x, 1) ∧ PT x 1 = x + 2 ∧ tmA x 1 = t + 1
set_option maxRecDepth 100000 in
theorem K_Rw {ω : Wd} {n t : Nat} {x : Int} {h : Hp} (hω : OKw ω) (F : F_Rw n t x) (hz : ∀ b : Int, x ≤ b → b ≤ x + 2 → ∀ j, h b j = 0) : Ct ω N_Rw_init 1 [aV ω x] (sN n) (pN t) (zz ω n) h 2 82 (QK ω (n + 2) (t + 2) h) := by
  obtain ⟨f20, fo, fo2, fn, ftn, fsx, fa0, fs1, fa1, fs2, fe0, fp0, ft0, fe1, fp1, ft1⟩ := F
  have hs : ∀ i, (sN (n + i) x).1 = 5 := fun i => by rw [sN_is x (by omega) fo2, fsx]
  refine Ct_of (lv := [some (aV ω x)]) (by decide) (Nat.le_trans (sl_1 (cat_aV _ _) sl_z) (Nat.le_of_ble_eq_true rfl)) (la_1 (cat_aV _ _) la_z) ?_
  refine ev_aload_n (pc := 0) (i := 0) dX5_init_0 rfl rfl ?_
  refine ev_objInit (pc := 1) dX5_init_1 wo_Rw wo_i wo_c (by omega) (by decide) (by decide) ?_
  refine ev_aload_n (pc := 4) (i := 0) dX5_init_4 rfl rfl ?_
  refine ev_bipush (pc := 5) dX5_init_5 (by decide) ?_
  refine ev_newarr (pc := 7) (atype := .int) (a := x + 1) hω (by omega) fa0 dX5_init_7 wa_int (by rw [fs1]; rfl) (by rw [fs1]; decide) (by rw [fs1]; rfl) (by rw [fs1]; decide) (by decide) (by rw [fs1]; decide) (fun j => hz _ (by omega) (by omega) j) ?_
  rw [fs1]
  refine ev_putF (pc := 9) (c9 := 5) (k9 := 0) fe0 fp0 dX5_init_9 kf_Rw_9 (by decide) (hs 1) (by omega) (fun q hq => by cases hq; exact ⟨rfl, rfl⟩) rfl rfl rfl ?_
  refine ev_aload_n (pc := 12) (i := 0) dX5_init_12 rfl rfl ?_
  refine ev_bipush (pc := 13) dX5_init_13 (by decide) ?_
  refine ev_newarr (pc := 15) (atype := .int) (a := x + 2) hω (by omega) fa1 dX5_init_15 wa_int (by rw [fs2]; rfl) (by rw [fs2]; decide) (by rw [fs2]; rfl) (by rw [fs2]; decide) (by decide) (by rw [fs2]; decide) (fun j => hz _ (by omega) (by omega) j) ?_
  rw [fs2]
  refine ev_putF (pc := 17) (c9 := 5) (k9 := 1) fe1 fp1 dX5_init_17 kf_Rw_15 (by decide) (hs 2) (by omega) (fun q hq => by cases hq; exact ⟨rfl, rfl⟩) rfl rfl rfl ?_
  refine ev_aload_n (pc := 20) (i := 0) dX5_init_20 rfl rfl ?_
  refine ev_iconst (pc := 21) dX5_init_21 ?_
  refine ev_putS (pc := 22) (c9 := 5) (k9 := 2) (x := 0) dX5_init_22 kf_Rw_18 (by decide) (hs 2) (by omega) (fun q hq => by cases hq; rfl) (Or.inl rfl) rfl (hz _ (by omega) (by omega) _) ?_
  refine ev_aload_n (pc := 25) (i := 0) dX5_init_25 rfl rfl ?_
  refine ev_iconst (pc := 26) dX5_init_26 ?_
  refine ev_putS (pc := 27) (c9 := 5) (k9 := 3) (x := 0) dX5_init_27 kf_Rw_22 (by decide) (hs 2) (by omega) (fun q hq => by cases hq; rfl) (Or.inl rfl) rfl (hz _ (by omega) (by omega) _) ?_
  exact ev_vret (pc := 30) dX5_init_30 rfl (by decide) (by decide) ⟨rfl, rfl, rfl, rfl, rfl⟩
end Made
