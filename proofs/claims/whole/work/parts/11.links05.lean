set_option maxHeartbeats 1000000 in
set_option maxRecDepth 100000 in
theorem KMd_sentencedOf_b5_body {ω : Wd} {z : Nat → Prop}  {k5 : Hp × Int × Int × Int × Int × Int → Option (Int × Hp)} {h h' : Hp} {x0 x1 x2 x3 x4 r : Int}  (hk5 : ∀ s o, k5 s = some o → EvB ω N_Md_sentencedOf 2 (QB (some (iV o.1)) z o.2) z s.1 5 [some (aV ω s.2.1), some (aV ω s.2.2.1), some (iV s.2.2.2.1), some (iV s.2.2.2.2.1), some (iV s.2.2.2.2.2)] []) (hL : Md_sentencedOf_b5_body  k5 h x0 x1 x2 x3 x4 = some (r, h')) : EvB ω N_Md_sentencedOf 2 (QB (some (iV r)) z h') z h 5 [some (aV ω x0), some (aV ω x1), some (iV x2), some (iV x3), some (iV x4)] [] := by
  unfold Md_sentencedOf_b5_body at hL
  refine ev_iload (pc := 5) dX10_sentencedOf_5 rfl ?_
  refine ev_aload_n (pc := 7) (i := 0) dX10_sentencedOf_7 rfl rfl ?_
  obtain ⟨hs1, hL⟩ := cC_un hL
  refine ev_get (pc := 8) (c9 := 10) (k9 := 27) dX10_sentencedOf_8 fl_Md_297 (by decide) hs1 gv10_27 ?_
  refine ev_icmp_ge (pc := 11) (tgt := 53) dX10_sentencedOf_11 rfl hL rfl (fun hL => ?_) (fun hL => ?_)
  · refine ev_iload_n (pc := 14) (i := 3) dX10_sentencedOf_14 rfl rfl ?_
    refine ev_aload_n (pc := 15) (i := 0) dX10_sentencedOf_15 rfl rfl ?_
    refine ev_get (pc := 16) (c9 := 10) (k9 := 22) dX10_sentencedOf_16 fl_Md_49 (by decide) hs1 (gv10_22 hs1) ?_
    refine ev_iconst (pc := 19) dX10_sentencedOf_19 ?_
    refine ev_iload (pc := 20) dX10_sentencedOf_20 rfl ?_
    refine ev_imul (pc := 22) dX10_sentencedOf_22 ?_
    obtain ⟨q2a, q2b, q2c, hL⟩ := cX_un hL
    refine ev_iald (pc := 23) dX10_sentencedOf_23 q2a q2b q2c ?_
    refine ev_iload_n (pc := 24) (i := 2) dX10_sentencedOf_24 rfl rfl ?_
    refine ev_icmp_ne (pc := 25) (tgt := 44) dX10_sentencedOf_25 rfl hL rfl (fun hL => ?_) (fun hL => ?_)
    · refine ev_aload_n (pc := 28) (i := 1) dX10_sentencedOf_28 rfl rfl ?_
      refine ev_bipush (pc := 29) dX10_sentencedOf_29 (by decide) ?_
      obtain ⟨q3a, q3b, q3c, hL⟩ := cX_un hL
      refine ev_iald (pc := 31) dX10_sentencedOf_31 q3a q3b q3c ?_
      refine ev_iload (pc := 32) dX10_sentencedOf_32 rfl ?_
      obtain ⟨r4, h5, hc6, hL⟩ := cl_un hL
      refine evB_callS_I (pc := 34) (M_Md_has hc6) dX10_sentencedOf_34 mt_Md_has st_Md_has ml_Md_229 (Nat.le_of_ble_eq_true rfl) rfl rfl (Nat.le_trans (sm_1 (cat_iV _) sm_z) (by decide)) ?_
      refine ev_if_eq (pc := 37) (tgt := 44) dX10_sentencedOf_37 rfl hL rfl (fun hL => ?_) (fun hL => ?_)
      · refine ev_iconst (pc := 44) dX10_sentencedOf_44 ?_
        refine ev_iadd (pc := 45) dX10_sentencedOf_45 ?_
        refine ev_bdI hL (fun v7 hL => ?_)
        refine ev_istore_n (pc := 46) (i := 3) dX10_sentencedOf_46 rfl (lnl_v rfl rfl) (Nat.le_of_ble_eq_true rfl) ?_
        refine ev_iinc (pc := 47) dX10_sentencedOf_47 rfl (lnl_v rfl rfl) (Nat.le_of_ble_eq_true rfl) ?_
        refine ev_goto (pc := 50) (tgt := 5) dX10_sentencedOf_50 rfl ?_
        exact ev_le (lvle_s (lvle_s (lvle_s (lvle_s (lvle_s lvle_z))))) (hk5 _ _ hL)
      · refine ev_iconst (pc := 40) dX10_sentencedOf_40 ?_
        refine ev_goto (pc := 41) (tgt := 45) dX10_sentencedOf_41 rfl ?_
        refine ev_iadd (pc := 45) dX10_sentencedOf_45 ?_
        refine ev_bdI hL (fun v8 hL => ?_)
        refine ev_istore_n (pc := 46) (i := 3) dX10_sentencedOf_46 rfl (lnl_v rfl rfl) (Nat.le_of_ble_eq_true rfl) ?_
        refine ev_iinc (pc := 47) dX10_sentencedOf_47 rfl (lnl_v rfl rfl) (Nat.le_of_ble_eq_true rfl) ?_
        refine ev_goto (pc := 50) (tgt := 5) dX10_sentencedOf_50 rfl ?_
        exact ev_le (lvle_s (lvle_s (lvle_s (lvle_s (lvle_s lvle_z))))) (hk5 _ _ hL)
    · refine ev_iconst (pc := 44) dX10_sentencedOf_44 ?_
      refine ev_iadd (pc := 45) dX10_sentencedOf_45 ?_
      refine ev_bdI hL (fun v9 hL => ?_)
      refine ev_istore_n (pc := 46) (i := 3) dX10_sentencedOf_46 rfl (lnl_v rfl rfl) (Nat.le_of_ble_eq_true rfl) ?_
      refine ev_iinc (pc := 47) dX10_sentencedOf_47 rfl (lnl_v rfl rfl) (Nat.le_of_ble_eq_true rfl) ?_
      refine ev_goto (pc := 50) (tgt := 5) dX10_sentencedOf_50 rfl ?_
      exact ev_le (lvle_s (lvle_s (lvle_s (lvle_s (lvle_s lvle_z))))) (hk5 _ _ hL)
  · refine ev_iload_n (pc := 53) (i := 3) dX10_sentencedOf_53 rfl rfl ?_
    exact evB_iret (pc := 54) dX10_sentencedOf_54 rfl hL
set_option maxHeartbeats 1000000 in
set_option maxRecDepth 100000 in
theorem KMd_sentencedOf_b5 {ω : Wd} {z : Nat → Prop}  {h h' : Hp} {x0 x1 x2 x3 x4 r : Int}  (hL : Md_sentencedOf_b5 h x0 x1 x2 x3 x4 = some (r, h')) : EvB ω N_Md_sentencedOf 2 (QB (some (iV r)) z h') z h 5 [some (aV ω x0), some (aV ω x1), some (iV x2), some (iV x3), some (iV x4)] [] := by
  unfold Md_sentencedOf_b5 at hL
  refine itr_link (P := fun (s : Hp × Int × Int × Int × Int × Int) (o : Int × Hp) => EvB ω N_Md_sentencedOf 2 (QB (some (iV o.1)) z o.2) z s.1 5 [some (aV ω s.2.1), some (aV ω s.2.2.1), some (iV s.2.2.2.1), some (iV s.2.2.2.2.1), some (iV s.2.2.2.2.2)] []) ?_ _ _ _ hL
  intro k hk s o h9
  have h10 := KMd_sentencedOf_b5_body (ω := ω) (z := z) (k5 := k) (h := s.1) (x0 := s.2.1) (x1 := s.2.2.1) (x2 := s.2.2.2.1) (x3 := s.2.2.2.2.1) (x4 := s.2.2.2.2.2) (r := o.1) (h' := o.2) 
  exact h10 hk h9
set_option maxHeartbeats 1000000 in
set_option maxRecDepth 100000 in
theorem M_Md_sentencedOf {ω : Wd} {z : Nat → Prop} {h h' : Hp} {a0 a1 a2 r : Int}  (hL : Md_sentencedOf h a0 a1 a2 = some (r, h')) : CtB ω N_Md_sentencedOf 2 [aV ω a0, aV ω a1, iV a2] z h (some (iV r)) h' := by
  unfold Md_sentencedOf at hL
  refine Ct_of (lv := [some (aV ω a0), some (aV ω a1), some (iV a2), none, none]) (by decide) (Nat.le_trans (sl_1 (cat_aV _ _) (sl_1 (cat_aV _ _) (sl_1 (cat_iV _) sl_z))) (Nat.le_of_ble_eq_true rfl)) (la_1 (cat_aV _ _) (la_1 (cat_aV _ _) (la_1 (cat_iV _) (la_n (la_n la_z))))) ?_
  refine ev_iconst (pc := 0) dX10_sentencedOf_0 ?_
  refine ev_istore_n (pc := 1) (i := 3) dX10_sentencedOf_1 rfl (lnl_v rfl rfl) (Nat.le_of_ble_eq_true rfl) ?_
  refine ev_iconst (pc := 2) dX10_sentencedOf_2 ?_
  refine ev_istore (pc := 3) dX10_sentencedOf_3 (lnl_v rfl rfl) (Nat.le_of_ble_eq_true rfl) ?_
  exact ev_le (lvle_s (lvle_s (lvle_s (lvle_s (lvle_s lvle_z))))) (KMd_sentencedOf_b5  hL)
set_option maxHeartbeats 1000000 in
set_option maxRecDepth 100000 in
theorem M_Md_worthNow {ω : Wd} {z : Nat → Prop} {h h' : Hp} {a0 a1 a2 a3 a4 r : Int}  (hL : Md_worthNow h a0 a1 a2 a3 a4 = some (r, h')) : CtB ω N_Md_worthNow 1304 [aV ω a0, aV ω a1, iV a2, iV a3, iV a4] z h (some (iV r)) h' := by
  unfold Md_worthNow at hL
  refine Ct_of (lv := [some (aV ω a0), some (aV ω a1), some (iV a2), some (iV a3), some (iV a4)]) (by decide) (Nat.le_trans (sl_1 (cat_aV _ _) (sl_1 (cat_aV _ _) (sl_1 (cat_iV _) (sl_1 (cat_iV _) (sl_1 (cat_iV _) sl_z))))) (Nat.le_of_ble_eq_true rfl)) (la_1 (cat_aV _ _) (la_1 (cat_aV _ _) (la_1 (cat_iV _) (la_1 (cat_iV _) (la_1 (cat_iV _) la_z))))) ?_
  refine ev_aload_n (pc := 0) (i := 0) dX10_worthNow_0 rfl rfl ?_
  refine ev_iload (pc := 1) dX10_worthNow_1 rfl ?_
  refine ev_aload_n (pc := 3) (i := 0) dX10_worthNow_3 rfl rfl ?_
  obtain ⟨hs1, hL⟩ := cC_un hL
  refine ev_get (pc := 4) (c9 := 10) (k9 := 20) dX10_worthNow_4 fl_Md_43 (by decide) hs1 (gv10_20 hs1) ?_
  refine ev_iconst (pc := 7) dX10_worthNow_7 ?_
  refine ev_iload_n (pc := 8) (i := 2) dX10_worthNow_8 rfl rfl ?_
  refine ev_imul (pc := 9) dX10_worthNow_9 ?_
  refine ev_iconst (pc := 10) dX10_worthNow_10 ?_
  refine ev_iadd (pc := 11) dX10_worthNow_11 ?_
  obtain ⟨q2a, q2b, q2c, hL⟩ := cX_un hL
  refine ev_iald (pc := 12) dX10_worthNow_12 q2a q2b q2c ?_
  refine ev_aload_n (pc := 13) (i := 1) dX10_worthNow_13 rfl rfl ?_
  refine ev_iload_n (pc := 14) (i := 3) dX10_worthNow_14 rfl rfl ?_
  obtain ⟨r3, h4, hc5, hL⟩ := cl_un hL
  refine evB_callS_I (pc := 15) (M_Md_lonely hc5) dX10_worthNow_15 mt_Md_lonely st_Md_lonely ml_Md_334 (Nat.le_of_ble_eq_true rfl) rfl rfl (Nat.le_trans (sm_1 (cat_iV _) (sm_1 (cat_iV _) (sm_1 (cat_aV _ _) sm_z))) (by decide)) ?_
  refine ev_aload_n (pc := 18) (i := 1) dX10_worthNow_18 rfl rfl ?_
  refine ev_bipush (pc := 19) dX10_worthNow_19 (by decide) ?_
  refine ev_iconst (pc := 21) dX10_worthNow_21 ?_
  refine ev_iload_n (pc := 22) (i := 3) dX10_worthNow_22 rfl rfl ?_
  refine ev_imul (pc := 23) dX10_worthNow_23 ?_
  refine ev_iadd (pc := 24) dX10_worthNow_24 ?_
  refine ev_iconst (pc := 25) dX10_worthNow_25 ?_
  refine ev_iadd (pc := 26) dX10_worthNow_26 ?_
  obtain ⟨q6a, q6b, q6c, hL⟩ := cX_un hL
  refine ev_iald (pc := 27) dX10_worthNow_27 q6a q6b q6c ?_
  refine ev_aload_n (pc := 28) (i := 0) dX10_worthNow_28 rfl rfl ?_
  refine ev_aload_n (pc := 29) (i := 1) dX10_worthNow_29 rfl rfl ?_
  refine ev_iload_n (pc := 30) (i := 2) dX10_worthNow_30 rfl rfl ?_
  obtain ⟨r7, h8, hc9, hL⟩ := cl_un hL
  refine evB_callV_I (pc := 31) (M_Md_sentencedOf hc9) dX10_worthNow_31 mt_Md_sentencedOf st_Md_sentencedOf ml_Md_338 hs1 (by decide) ⟨_, rfl, rfl⟩ (Nat.le_of_ble_eq_true rfl) rfl rfl (Nat.le_trans (sm_1 (cat_iV _) (sm_1 (cat_iV _) (sm_1 (cat_iV _) (sm_1 (cat_iV _) (sm_1 (cat_aV _ _) sm_z))))) (by decide)) ?_
  refine ev_aload_n (pc := 34) (i := 1) dX10_worthNow_34 rfl rfl ?_
  refine ev_bipush (pc := 35) dX10_worthNow_35 (by decide) ?_
  obtain ⟨q10a, q10b, q10c, hL⟩ := cX_un hL
  refine ev_iald (pc := 37) dX10_worthNow_37 q10a q10b q10c ?_
  obtain ⟨r11, h12, hc13, hL⟩ := cl_un hL
  refine evB_callV_I (pc := 38) (M_Md_evenings hc13) dX10_worthNow_38 mt_Md_evenings st_Md_evenings ml_Md_341 hs1 (by decide) ⟨_, rfl, rfl⟩ (Nat.le_of_ble_eq_true rfl) rfl rfl (Nat.le_trans sm_z (by decide)) ?_
  exact evB_iret (pc := 41) dX10_worthNow_41 rfl hL
set_option maxHeartbeats 1000000 in
set_option maxRecDepth 100000 in
theorem KMd_crime_b31_body {ω : Wd} {z : Nat → Prop}  {k31 : Hp × Int × Int × Int × Int × Int → Option (Int × Hp)} {h h' : Hp} {x0 x1 x2 x3 x4 r : Int}  (hk31 : ∀ s o, k31 s = some o → EvB ω N_Md_crime 1305 (QB (some (iV o.1)) z o.2) z s.1 31 [some (aV ω s.2.1), some (iV s.2.2.1), some (iV s.2.2.2.1), some (iV s.2.2.2.2.1), some (iV s.2.2.2.2.2)] []) (hL : Md_crime_b31_body  k31 h x0 x1 x2 x3 x4 = some (r, h')) : EvB ω N_Md_crime 1305 (QB (some (iV r)) z h') z h 31 [some (aV ω x0), some (iV x1), some (iV x2), some (iV x3), some (iV x4)] [] := by
  unfold Md_crime_b31_body at hL
  refine ev_iload (pc := 31) dX10_crime_31 rfl ?_
  refine ev_bipush (pc := 33) dX10_crime_33 (by decide) ?_
  refine ev_icmp_gt (pc := 35) (tgt := 63) dX10_crime_35 rfl hL rfl (fun hL => ?_) (fun hL => ?_)
  · refine ev_iconst (pc := 63) dX10_crime_63 ?_
    exact evB_iret (pc := 64) dX10_crime_64 rfl hL
  · refine ev_aload_n (pc := 38) (i := 0) dX10_crime_38 rfl rfl ?_
    refine ev_aload_n (pc := 39) (i := 0) dX10_crime_39 rfl rfl ?_
    obtain ⟨hs9, hL⟩ := cC_un hL
    refine ev_get (pc := 40) (c9 := 10) (k9 := 32) dX10_crime_40 fl_Md_61 (by decide) hs9 (gv10_32 hs9) ?_
    refine ev_iload_n (pc := 43) (i := 1) dX10_crime_43 rfl rfl ?_
    refine ev_iload_n (pc := 44) (i := 2) dX10_crime_44 rfl rfl ?_
    refine ev_iload (pc := 45) dX10_crime_45 rfl ?_
    obtain ⟨r10, h11, hc12, hL⟩ := cl_un hL
    refine evB_callV_I (pc := 47) (M_Md_worthNow hc12) dX10_crime_47 mt_Md_worthNow st_Md_worthNow ml_Md_374 hs9 (by decide) ⟨_, rfl, rfl⟩ (Nat.le_of_ble_eq_true rfl) rfl rfl (Nat.le_trans sm_z (by decide)) ?_
    refine ev_iload_n (pc := 50) (i := 3) dX10_crime_50 rfl rfl ?_
    refine ev_icmp_lt (pc := 51) (tgt := 57) dX10_crime_51 rfl hL rfl (fun hL => ?_) (fun hL => ?_)
    · refine ev_iinc (pc := 57) dX10_crime_57 rfl (lnl_v rfl rfl) (Nat.le_of_ble_eq_true rfl) ?_
      refine ev_goto (pc := 60) (tgt := 31) dX10_crime_60 rfl ?_
      exact ev_le (lvle_s (lvle_s (lvle_s (lvle_s (lvle_s lvle_z))))) (hk31 _ _ hL)
    · refine ev_iload (pc := 54) dX10_crime_54 rfl ?_
      exact evB_iret (pc := 56) dX10_crime_56 rfl hL
set_option maxHeartbeats 1000000 in
set_option maxRecDepth 100000 in
theorem KMd_crime_b31 {ω : Wd} {z : Nat → Prop}  {h h' : Hp} {x0 x1 x2 x3 x4 r : Int}  (hL : Md_crime_b31 h x0 x1 x2 x3 x4 = some (r, h')) : EvB ω N_Md_crime 1305 (QB (some (iV r)) z h') z h 31 [some (aV ω x0), some (iV x1), some (iV x2), some (iV x3), some (iV x4)] [] := by
  unfold Md_crime_b31 at hL
  refine itr_link (P := fun (s : Hp × Int × Int × Int × Int × Int) (o : Int × Hp) => EvB ω N_Md_crime 1305 (QB (some (iV o.1)) z o.2) z s.1 31 [some (aV ω s.2.1), some (iV s.2.2.1), some (iV s.2.2.2.1), some (iV s.2.2.2.2.1), some (iV s.2.2.2.2.2)] []) ?_ _ _ _ hL
  intro k hk s o h9
  have h10 := KMd_crime_b31_body (ω := ω) (z := z) (k31 := k) (h := s.1) (x0 := s.2.1) (x1 := s.2.2.1) (x2 := s.2.2.2.1) (x3 := s.2.2.2.2.1) (x4 := s.2.2.2.2.2) (r := o.1) (h' := o.2) 
  exact h10 hk h9
set_option maxHeartbeats 1000000 in
set_option maxRecDepth 100000 in
theorem M_Md_crime {ω : Wd} {z : Nat → Prop} {h h' : Hp} {a0 a1 a2 a3 r : Int}  (hL : Md_crime h a0 a1 a2 a3 = some (r, h')) : CtB ω N_Md_crime 1305 [aV ω a0, iV a1, iV a2, iV a3] z h (some (iV r)) h' := by
  unfold Md_crime at hL
  refine Ct_of (lv := [some (aV ω a0), some (iV a1), some (iV a2), some (iV a3), none]) (by decide) (Nat.le_trans (sl_1 (cat_aV _ _) (sl_1 (cat_iV _) (sl_1 (cat_iV _) (sl_1 (cat_iV _) sl_z)))) (Nat.le_of_ble_eq_true rfl)) (la_1 (cat_aV _ _) (la_1 (cat_iV _) (la_1 (cat_iV _) (la_1 (cat_iV _) (la_n la_z))))) ?_
  refine ev_aload_n (pc := 0) (i := 0) dX10_crime_0 rfl rfl ?_
  refine ev_iconst (pc := 1) dX10_crime_1 ?_
  obtain ⟨hs1, hL⟩ := cC_un hL
  refine evB_putI (pc := 2) (c9 := 10) (k9 := 0) (kI := 0) dX10_crime_2 fl_Md_96 hs1 (by decide) (fun q hq => by cases hq; rfl) rfl rfl rfl ?_
  refine ev_puG hL (fun h2 hL => ?_)
  refine ev_aload_n (pc := 5) (i := 0) dX10_crime_5 rfl rfl ?_
  refine ev_iload_n (pc := 6) (i := 1) dX10_crime_6 rfl rfl ?_
  refine ev_iload_n (pc := 7) (i := 2) dX10_crime_7 rfl rfl ?_
  obtain ⟨r3, h4, hc5, hL⟩ := cl_un hL
  refine evB_callV_I (pc := 8) (M_Md_areTwo hc5) dX10_crime_8 mt_Md_areTwo st_Md_areTwo ml_Md_393 hs1 (by decide) ⟨_, rfl, rfl⟩ (Nat.le_of_ble_eq_true rfl) rfl rfl (Nat.le_trans sm_z (by decide)) ?_
  refine ev_if_eq (pc := 11) (tgt := 26) dX10_crime_11 rfl hL rfl (fun hL => ?_) (fun hL => ?_)
  · refine ev_iconst (pc := 26) dX10_crime_26 ?_
    exact evB_iret (pc := 27) dX10_crime_27 rfl hL
  · refine ev_iload_n (pc := 14) (i := 3) dX10_crime_14 rfl rfl ?_
    refine ev_i2l (pc := 15) dX10_crime_15 ?_
    refine ev_lconst (pc := 16) (x := 1) dX10_crime_16 rfl ?_
    refine ev_ldc2 (pc := 17) (x := 30) dX10_crime_17 w_l_Md_420 ?_
    obtain ⟨r6, h7, hc8, hL⟩ := cl_un hL
    refine evB_callS_I (pc := 20) (M_Md_isIn hc8) dX10_crime_20 mt_Md_isIn st_Md_isIn ml_Md_217 (Nat.le_of_ble_eq_true rfl) rfl rfl (Nat.le_trans sm_z (by decide)) ?_
    refine ev_if_ne (pc := 23) (tgt := 28) dX10_crime_23 rfl hL rfl (fun hL => ?_) (fun hL => ?_)
    · refine ev_iconst (pc := 26) dX10_crime_26 ?_
      exact evB_iret (pc := 27) dX10_crime_27 rfl hL
    · refine ev_iconst (pc := 28) dX10_crime_28 ?_
      refine ev_istore (pc := 29) dX10_crime_29 (lnl_v rfl rfl) (Nat.le_of_ble_eq_true rfl) ?_
      exact ev_le (lvle_s (lvle_s (lvle_s (lvle_s (lvle_s lvle_z))))) (KMd_crime_b31  hL)
set_option maxHeartbeats 1000000 in
set_option maxRecDepth 100000 in
theorem M_Md_digit {ω : Wd} {z : Nat → Prop} {h h' : Hp} {a0 r : Int}  (hL : Md_digit h a0 = some (r, h')) : CtB ω N_Md_digit 2 [aV ω a0] z h (some (iV r)) h' := by
  unfold Md_digit at hL
  refine Ct_of (lv := [some (aV ω a0), none]) (by decide) (Nat.le_trans (sl_1 (cat_aV _ _) sl_z) (Nat.le_of_ble_eq_true rfl)) (la_1 (cat_aV _ _) (la_n la_z)) ?_
  refine ev_aload_n (pc := 0) (i := 0) dX10_digit_0 rfl rfl ?_
  obtain ⟨hs1, hL⟩ := cC_un hL
  obtain ⟨r2, h3, hc4, hL⟩ := cl_un hL
  refine evB_callV_I (pc := 1) (M_Md_look hc4) dX10_digit_1 mt_Md_look st_Md_look ml_Md_138 hs1 (by decide) ⟨_, rfl, rfl⟩ (Nat.le_of_ble_eq_true rfl) rfl rfl (Nat.le_trans sm_z (by decide)) ?_
  refine ev_istore_n (pc := 4) (i := 1) dX10_digit_4 rfl (lnl_v (cat_aV _ _) rfl) (Nat.le_of_ble_eq_true rfl) ?_
  refine ev_aload_n (pc := 5) (i := 0) dX10_digit_5 rfl rfl ?_
  obtain ⟨r5, h6, hc7, hL⟩ := cl_un hL
  refine evB_callV_I (pc := 6) (M_Md_isDigit hc7) dX10_digit_6 mt_Md_isDigit st_Md_isDigit ml_Md_168 hs1 (by decide) ⟨_, rfl, rfl⟩ (Nat.le_of_ble_eq_true rfl) rfl rfl (Nat.le_trans sm_z (by decide)) ?_
  refine ev_if_ne (pc := 9) (tgt := 19) dX10_digit_9 rfl hL rfl (fun hL => ?_) (fun hL => ?_)
  · refine ev_aload_n (pc := 12) (i := 0) dX10_digit_12 rfl rfl ?_
    obtain ⟨r8, h9, hc10, hL⟩ := cl_un hL
    refine evB_callV_I (pc := 13) (M_Md_fails hc10) dX10_digit_13 mt_Md_fails st_Md_fails ml_Md_134 hs1 (by decide) ⟨_, rfl, rfl⟩ (Nat.le_of_ble_eq_true rfl) rfl rfl (Nat.le_trans sm_z (by decide)) ?_
    refine ev_pop (pc := 16) dX10_digit_16 rfl ?_
    refine ev_iconst (pc := 17) dX10_digit_17 ?_
    exact evB_iret (pc := 18) dX10_digit_18 rfl hL
  · refine ev_aload_n (pc := 19) (i := 0) dX10_digit_19 rfl rfl ?_
    refine ev_dup (pc := 20) dX10_digit_20 (cat_aV _ _) ?_
    refine ev_get (pc := 21) (c9 := 10) (k9 := 10) dX10_digit_21 fl_Md_119 (by decide) hs1 gv10_10 ?_
    refine ev_iconst (pc := 24) dX10_digit_24 ?_
    refine ev_iadd (pc := 25) dX10_digit_25 ?_
    refine evB_putI (pc := 26) (c9 := 10) (k9 := 10) (kI := 10) dX10_digit_26 fl_Md_119 hs1 (by decide) (fun q hq => by cases hq; rfl) rfl rfl rfl ?_
    refine ev_puG hL (fun h11 hL => ?_)
    refine ev_iload_n (pc := 29) (i := 1) dX10_digit_29 rfl rfl ?_
    refine ev_bipush (pc := 30) dX10_digit_30 (by decide) ?_
    refine ev_isub (pc := 32) dX10_digit_32 ?_
    exact evB_iret (pc := 33) dX10_digit_33 rfl hL
set_option maxHeartbeats 1000000 in
set_option maxRecDepth 100000 in
theorem M_Md_draw {ω : Wd} {z : Nat → Prop} {h h' : Hp} {a0 a1 r : Int}  (hL : Md_draw h a0 a1 = some (r, h')) : CtB ω N_Md_draw 1 [aV ω a0, iV a1] z h (some (iV r)) h' := by
  unfold Md_draw at hL
  refine Ct_of (lv := [some (aV ω a0), some (iV a1)]) (by decide) (Nat.le_trans (sl_1 (cat_aV _ _) (sl_1 (cat_iV _) sl_z)) (Nat.le_of_ble_eq_true rfl)) (la_1 (cat_aV _ _) (la_1 (cat_iV _) la_z)) ?_
  refine ev_aload_n (pc := 0) (i := 0) dX10_draw_0 rfl rfl ?_
  refine ev_aload_n (pc := 1) (i := 0) dX10_draw_1 rfl rfl ?_
  obtain ⟨hs1, hL⟩ := cC_un hL
  refine ev_get (pc := 2) (c9 := 10) (k9 := 43) dX10_draw_2 fl_Md_412 (by decide) hs1 gv10_43 ?_
  refine ev_ldc2 (pc := 5) (x := 6364136223846793005) dX10_draw_5 w_l_Md_416 ?_
  refine ev_lmul (pc := 8) dX10_draw_8 ?_
  refine ev_ldc2 (pc := 9) (x := 1442695040888963407) dX10_draw_9 w_l_Md_418 ?_
  refine ev_ladd (pc := 12) dX10_draw_12 ?_
  refine evB_putL (pc := 13) (c9 := 10) (k9 := 43) (kI := 43) dX10_draw_13 fl_Md_412 hs1 (by decide) (fun q hq => by cases hq; rfl) rfl rfl rfl ?_
  refine ev_puG hL (fun h2 hL => ?_)
  refine ev_aload_n (pc := 16) (i := 0) dX10_draw_16 rfl rfl ?_
  refine ev_get (pc := 17) (c9 := 10) (k9 := 43) dX10_draw_17 fl_Md_412 (by decide) hs1 gv10_43 ?_
  refine ev_bipush (pc := 20) dX10_draw_20 (by decide) ?_
  refine ev_lushr (pc := 22) dX10_draw_22 ?_
  refine ev_iload_n (pc := 23) (i := 1) dX10_draw_23 rfl rfl ?_
  refine ev_i2l (pc := 24) dX10_draw_24 ?_
  refine ev_lrem (pc := 25) dX10_draw_25 hL (fun hL => ?_)
  refine ev_l2i (pc := 26) dX10_draw_26 ?_
  exact evB_iret (pc := 27) dX10_draw_27 rfl hL
set_option maxHeartbeats 1000000 in
set_option maxRecDepth 100000 in
theorem M_Md_end {ω : Wd} {z : Nat → Prop} {h h' : Hp} {a0 a1 r : Int}  (hL : Md_end h a0 a1 = some (r, h')) : CtB ω N_Md_end 1 [aV ω a0, iV a1] z h (some (iV r)) h' := by
  unfold Md_end at hL
  refine Ct_of (lv := [some (aV ω a0), some (iV a1)]) (by decide) (Nat.le_trans (sl_1 (cat_aV _ _) (sl_1 (cat_iV _) sl_z)) (Nat.le_of_ble_eq_true rfl)) (la_1 (cat_aV _ _) (la_1 (cat_iV _) la_z)) ?_
  refine ev_aload_n (pc := 0) (i := 0) dX10_end_0 rfl rfl ?_
  refine ev_iconst (pc := 1) dX10_end_1 ?_
  obtain ⟨hs1, hL⟩ := cC_un hL
  refine evB_putI (pc := 2) (c9 := 10) (k9 := 0) (kI := 0) dX10_end_2 fl_Md_96 hs1 (by decide) (fun q hq => by cases hq; rfl) rfl rfl rfl ?_
  refine ev_puG hL (fun h2 hL => ?_)
  refine ev_iload_n (pc := 5) (i := 1) dX10_end_5 rfl rfl ?_
  refine ev_if_lt (pc := 6) (tgt := 17) dX10_end_6 rfl hL rfl (fun hL => ?_) (fun hL => ?_)
  · refine ev_iconst (pc := 17) dX10_end_17 ?_
    exact evB_zret (pc := 18) dX10_end_18 rfl rfl hL
  · refine ev_iload_n (pc := 9) (i := 1) dX10_end_9 rfl rfl ?_
    refine ev_aload_n (pc := 10) (i := 0) dX10_end_10 rfl rfl ?_
    refine ev_get (pc := 11) (c9 := 10) (k9 := 6) dX10_end_11 fl_Md_109 (by decide) hs1 gv10_6 ?_
    refine ev_icmp_le (pc := 14) (tgt := 19) dX10_end_14 rfl hL rfl (fun hL => ?_) (fun hL => ?_)
    · refine ev_iconst (pc := 17) dX10_end_17 ?_
      exact evB_zret (pc := 18) dX10_end_18 rfl rfl hL
    · refine ev_aload_n (pc := 19) (i := 0) dX10_end_19 rfl rfl ?_
      refine ev_iload_n (pc := 20) (i := 1) dX10_end_20 rfl rfl ?_
      refine evB_putI (pc := 21) (c9 := 10) (k9 := 6) (kI := 6) dX10_end_21 fl_Md_109 hs1 (by decide) (fun q hq => by cases hq; rfl) rfl rfl rfl ?_
      refine ev_puG hL (fun h3 hL => ?_)
      refine ev_iconst (pc := 24) dX10_end_24 ?_
      exact evB_zret (pc := 25) dX10_end_25 rfl rfl hL
set_option maxHeartbeats 1000000 in
set_option maxRecDepth 100000 in
theorem M_Md_evening {ω : Wd} {z : Nat → Prop} {h h' : Hp} {a0 r : Int}  (hL : Md_evening h a0 = some (r, h')) : CtB ω N_Md_evening 5 [aV ω a0] z h (some (iV r)) h' := by
  unfold Md_evening at hL
  refine Ct_of (lv := [some (aV ω a0)]) (by decide) (Nat.le_trans (sl_1 (cat_aV _ _) sl_z) (Nat.le_of_ble_eq_true rfl)) (la_1 (cat_aV _ _) la_z) ?_
  refine ev_aload_n (pc := 0) (i := 0) dX10_evening_0 rfl rfl ?_
  refine ev_iconst (pc := 1) dX10_evening_1 ?_
  obtain ⟨hs1, hL⟩ := cC_un hL
  refine evB_putI (pc := 2) (c9 := 10) (k9 := 0) (kI := 0) dX10_evening_2 fl_Md_96 hs1 (by decide) (fun q hq => by cases hq; rfl) rfl rfl rfl ?_
  refine ev_puG hL (fun h2 hL => ?_)
  refine ev_aload_n (pc := 5) (i := 0) dX10_evening_5 rfl rfl ?_
  refine ev_get (pc := 6) (c9 := 10) (k9 := 26) dX10_evening_6 fl_Md_294 (by decide) hs1 gv10_26 ?_
  refine ev_if_eq (pc := 9) (tgt := 25) dX10_evening_9 rfl hL rfl (fun hL => ?_) (fun hL => ?_)
  · refine ev_iconst (pc := 25) dX10_evening_25 ?_
    exact evB_iret (pc := 26) dX10_evening_26 rfl hL
  · refine ev_aload_n (pc := 12) (i := 0) dX10_evening_12 rfl rfl ?_
    refine ev_get (pc := 13) (c9 := 10) (k9 := 32) dX10_evening_13 fl_Md_61 (by decide) hs1 (gv10_32 hs1) ?_
    refine ev_bipush (pc := 16) dX10_evening_16 (by decide) ?_
    obtain ⟨q3a, q3b, q3c, hL⟩ := cX_un hL
    refine ev_iald (pc := 18) dX10_evening_18 q3a q3b q3c ?_
    refine ev_sipush (pc := 19) dX10_evening_19 (by decide) ?_
    refine ev_icmp_ne (pc := 22) (tgt := 27) dX10_evening_22 rfl hL rfl (fun hL => ?_) (fun hL => ?_)
    · refine ev_iconst (pc := 25) dX10_evening_25 ?_
      exact evB_iret (pc := 26) dX10_evening_26 rfl hL
    · refine ev_aload_n (pc := 27) (i := 0) dX10_evening_27 rfl rfl ?_
      obtain ⟨r4, h5, hc6, hL⟩ := cl_un hL
      refine evB_callV_V (pc := 28) (M_Md_remember hc6) dX10_evening_28 mt_Md_remember st_Md_remember ml_Md_384 hs1 (by decide) ⟨_, rfl, rfl⟩ (Nat.le_of_ble_eq_true rfl) rfl rfl (Nat.le_trans sm_z (by decide)) ?_
      refine ev_aload_n (pc := 31) (i := 0) dX10_evening_31 rfl rfl ?_
      refine ev_aload_n (pc := 32) (i := 0) dX10_evening_32 rfl rfl ?_
      refine ev_get (pc := 33) (c9 := 10) (k9 := 32) dX10_evening_33 fl_Md_61 (by decide) hs1 (gv10_32 hs1) ?_
      refine ev_iconst (pc := 36) dX10_evening_36 ?_
      obtain ⟨r7, h8, hc9, hL⟩ := cl_un hL
      refine evB_callV_I (pc := 37) (M_Md_goEvening hc9) dX10_evening_37 mt_Md_goEvening st_Md_goEvening ml_Md_390 hs1 (by decide) ⟨_, rfl, rfl⟩ (Nat.le_of_ble_eq_true rfl) rfl rfl (Nat.le_trans sm_z (by decide)) ?_
      exact evB_iret (pc := 40) dX10_evening_40 rfl hL
set_option maxHeartbeats 1000000 in
set_option maxRecDepth 100000 in
theorem KMd_isWhole_b2_body {ω : Wd} {z : Nat → Prop}  {k2 : Hp × Int × Int → Option (Int × Hp)} {h h' : Hp} {x0 x1 r : Int}  (hk2 : ∀ s o, k2 s = some o → EvB ω N_Md_isWhole 1 (QB (some (iV o.1)) z o.2) z s.1 2 [some (aV ω s.2.1), some (iV s.2.2), none, none] []) (hL : Md_isWhole_b2_body  k2 h x0 x1 = some (r, h')) : EvB ω N_Md_isWhole 1 (QB (some (iV r)) z h') z h 2 [some (aV ω x0), some (iV x1), none, none] [] := by
  unfold Md_isWhole_b2_body at hL
  refine ev_iload_n (pc := 2) (i := 1) dX10_isWhole_2 rfl rfl ?_
  refine ev_aload_n (pc := 3) (i := 0) dX10_isWhole_3 rfl rfl ?_
  obtain ⟨hs1, hL⟩ := cC_un hL
  refine ev_get (pc := 4) (c9 := 10) (k9 := 29) dX10_isWhole_4 fl_Md_248 (by decide) hs1 gv10_29 ?_
  refine ev_icmp_ge (pc := 7) (tgt := 59) dX10_isWhole_7 rfl hL rfl (fun hL => ?_) (fun hL => ?_)
  · refine ev_aload_n (pc := 10) (i := 0) dX10_isWhole_10 rfl rfl ?_
    refine ev_get (pc := 11) (c9 := 10) (k9 := 23) dX10_isWhole_11 fl_Md_52 (by decide) hs1 (gv10_23 hs1) ?_
    refine ev_iconst (pc := 14) dX10_isWhole_14 ?_
    refine ev_iload_n (pc := 15) (i := 1) dX10_isWhole_15 rfl rfl ?_
    refine ev_imul (pc := 16) dX10_isWhole_16 ?_
    obtain ⟨q2a, q2b, q2c, hL⟩ := cX_un hL
    refine ev_iald (pc := 17) dX10_isWhole_17 q2a q2b q2c ?_
    refine ev_bdI hL (fun v3 hL => ?_)
    refine ev_istore_n (pc := 18) (i := 2) dX10_isWhole_18 rfl (lnl_v rfl rfl) (Nat.le_of_ble_eq_true rfl) ?_
    refine ev_aload_n (pc := 19) (i := 0) dX10_isWhole_19 rfl rfl ?_
    refine ev_get (pc := 20) (c9 := 10) (k9 := 23) dX10_isWhole_20 fl_Md_52 (by decide) hs1 (gv10_23 hs1) ?_
    refine ev_iconst (pc := 23) dX10_isWhole_23 ?_
    refine ev_iload_n (pc := 24) (i := 1) dX10_isWhole_24 rfl rfl ?_
    refine ev_imul (pc := 25) dX10_isWhole_25 ?_
    refine ev_iconst (pc := 26) dX10_isWhole_26 ?_
    refine ev_iadd (pc := 27) dX10_isWhole_27 ?_
    obtain ⟨q4a, q4b, q4c, hL⟩ := cX_un hL
    refine ev_iald (pc := 28) dX10_isWhole_28 q4a q4b q4c ?_
    refine ev_bdI hL (fun v5 hL => ?_)
    refine ev_istore_n (pc := 29) (i := 3) dX10_isWhole_29 rfl (lnl_v rfl rfl) (Nat.le_of_ble_eq_true rfl) ?_
    refine ev_iload_n (pc := 30) (i := 2) dX10_isWhole_30 rfl rfl ?_
    refine ev_aload_n (pc := 31) (i := 0) dX10_isWhole_31 rfl rfl ?_
    refine ev_get (pc := 32) (c9 := 10) (k9 := 28) dX10_isWhole_32 fl_Md_245 (by decide) hs1 gv10_28 ?_
    refine ev_icmp_ge (pc := 35) (tgt := 51) dX10_isWhole_35 rfl hL rfl (fun hL => ?_) (fun hL => ?_)
    · refine ev_iload_n (pc := 38) (i := 3) dX10_isWhole_38 rfl rfl ?_
      refine ev_aload_n (pc := 39) (i := 0) dX10_isWhole_39 rfl rfl ?_
      refine ev_get (pc := 40) (c9 := 10) (k9 := 28) dX10_isWhole_40 fl_Md_245 (by decide) hs1 gv10_28 ?_
      refine ev_icmp_ge (pc := 43) (tgt := 51) dX10_isWhole_43 rfl hL rfl (fun hL => ?_) (fun hL => ?_)
      · refine ev_iload_n (pc := 46) (i := 2) dX10_isWhole_46 rfl rfl ?_
        refine ev_iload_n (pc := 47) (i := 3) dX10_isWhole_47 rfl rfl ?_
        refine ev_icmp_ne (pc := 48) (tgt := 53) dX10_isWhole_48 rfl hL rfl (fun hL => ?_) (fun hL => ?_)
        · refine ev_iconst (pc := 51) dX10_isWhole_51 ?_
          exact evB_zret (pc := 52) dX10_isWhole_52 rfl rfl hL
        · refine ev_iinc (pc := 53) dX10_isWhole_53 rfl (lnl_v (cat_aV _ _) rfl) (Nat.le_of_ble_eq_true rfl) ?_
          refine ev_goto (pc := 56) (tgt := 2) dX10_isWhole_56 rfl ?_
          exact ev_le (lvle_s (lvle_s (lvle_n (lvle_n lvle_z)))) (hk2 _ _ hL)
      · refine ev_iconst (pc := 51) dX10_isWhole_51 ?_
        exact evB_zret (pc := 52) dX10_isWhole_52 rfl rfl hL
    · refine ev_iconst (pc := 51) dX10_isWhole_51 ?_
      exact evB_zret (pc := 52) dX10_isWhole_52 rfl rfl hL
  · refine ev_aload_n (pc := 59) (i := 0) dX10_isWhole_59 rfl rfl ?_
    refine ev_get (pc := 60) (c9 := 10) (k9 := 28) dX10_isWhole_60 fl_Md_245 (by decide) hs1 gv10_28 ?_
    refine ev_iconst (pc := 63) dX10_isWhole_63 ?_
    refine ev_icmp_le (pc := 64) (tgt := 71) dX10_isWhole_64 rfl hL rfl (fun hL => ?_) (fun hL => ?_)
    · refine ev_iconst (pc := 67) dX10_isWhole_67 ?_
      refine ev_goto (pc := 68) (tgt := 72) dX10_isWhole_68 rfl ?_
      exact evB_zret (pc := 72) dX10_isWhole_72 rfl rfl hL
    · refine ev_iconst (pc := 71) dX10_isWhole_71 ?_
      exact evB_zret (pc := 72) dX10_isWhole_72 rfl rfl hL
set_option maxHeartbeats 1000000 in
set_option maxRecDepth 100000 in
theorem KMd_isWhole_b2 {ω : Wd} {z : Nat → Prop}  {h h' : Hp} {x0 x1 r : Int}  (hL : Md_isWhole_b2 h x0 x1 = some (r, h')) : EvB ω N_Md_isWhole 1 (QB (some (iV r)) z h') z h 2 [some (aV ω x0), some (iV x1), none, none] [] := by
  unfold Md_isWhole_b2 at hL
  refine itr_link (P := fun (s : Hp × Int × Int) (o : Int × Hp) => EvB ω N_Md_isWhole 1 (QB (some (iV o.1)) z o.2) z s.1 2 [some (aV ω s.2.1), some (iV s.2.2), none, none] []) ?_ _ _ _ hL
  intro k hk s o h9
  have h10 := KMd_isWhole_b2_body (ω := ω) (z := z) (k2 := k) (h := s.1) (x0 := s.2.1) (x1 := s.2.2) (r := o.1) (h' := o.2) 
  exact h10 hk h9
set_option maxHeartbeats 1000000 in
set_option maxRecDepth 100000 in
theorem M_Md_isWhole {ω : Wd} {z : Nat → Prop} {h h' : Hp} {a0 r : Int}  (hL : Md_isWhole h a0 = some (r, h')) : CtB ω N_Md_isWhole 1 [aV ω a0] z h (some (iV r)) h' := by
  unfold Md_isWhole at hL
  refine Ct_of (lv := [some (aV ω a0), none, none, none]) (by decide) (Nat.le_trans (sl_1 (cat_aV _ _) sl_z) (Nat.le_of_ble_eq_true rfl)) (la_1 (cat_aV _ _) (la_n (la_n (la_n la_z)))) ?_
  refine ev_iconst (pc := 0) dX10_isWhole_0 ?_
  refine ev_istore_n (pc := 1) (i := 1) dX10_isWhole_1 rfl (lnl_v (cat_aV _ _) rfl) (Nat.le_of_ble_eq_true rfl) ?_
  exact ev_le (lvle_s (lvle_s (lvle_n (lvle_n lvle_z)))) (KMd_isWhole_b2  hL)
set_option maxHeartbeats 1000000 in
set_option maxRecDepth 100000 in
theorem KMd_leastOf_b10 {ω : Wd} {z : Nat → Prop}  {h h' : Hp} {x0 x1 r : Int}  (hL : Md_leastOf_b10 h x0 x1 = some (r, h')) : EvB ω N_Md_leastOf 1 (QB (some (iV r)) z h') z h 10 [some (iV x0), some (iV x1)] [] := by
  unfold Md_leastOf_b10 at hL
  refine ev_iload_n (pc := 10) (i := 0) dX10_leastOf_10 rfl rfl ?_
  refine ev_bipush (pc := 11) dX10_leastOf_11 (by decide) ?_
  refine ev_icmp_ne (pc := 13) (tgt := 25) dX10_leastOf_13 rfl hL rfl (fun hL => ?_) (fun hL => ?_)
  · refine ev_iload_n (pc := 16) (i := 1) dX10_leastOf_16 rfl rfl ?_
    refine ev_iconst (pc := 17) dX10_leastOf_17 ?_
    refine ev_icmp_ne (pc := 18) (tgt := 25) dX10_leastOf_18 rfl hL rfl (fun hL => ?_) (fun hL => ?_)
    · refine ev_iconst (pc := 21) dX10_leastOf_21 ?_
      refine ev_goto (pc := 22) (tgt := 26) dX10_leastOf_22 rfl ?_
      exact evB_iret (pc := 26) dX10_leastOf_26 rfl hL
    · refine ev_iconst (pc := 25) dX10_leastOf_25 ?_
      exact evB_iret (pc := 26) dX10_leastOf_26 rfl hL
  · refine ev_iconst (pc := 25) dX10_leastOf_25 ?_
    exact evB_iret (pc := 26) dX10_leastOf_26 rfl hL
set_option maxHeartbeats 1000000 in
set_option maxRecDepth 100000 in
theorem M_Md_leastOf {ω : Wd} {z : Nat → Prop} {h h' : Hp} {a0 a1 r : Int}  (hL : Md_leastOf h a0 a1 = some (r, h')) : CtB ω N_Md_leastOf 1 [iV a0, iV a1] z h (some (iV r)) h' := by
  unfold Md_leastOf at hL
  refine Ct_of (lv := [some (iV a0), some (iV a1)]) (by decide) (Nat.le_trans (sl_1 (cat_iV _) (sl_1 (cat_iV _) sl_z)) (Nat.le_of_ble_eq_true rfl)) (la_1 (cat_iV _) (la_1 (cat_iV _) la_z)) ?_
  refine ev_iload_n (pc := 0) (i := 0) dX10_leastOf_0 rfl rfl ?_
  refine ev_bipush (pc := 1) dX10_leastOf_1 (by decide) ?_
  refine ev_icmp_ne (pc := 3) (tgt := 10) dX10_leastOf_3 rfl hL rfl (fun hL => ?_) (fun hL => ?_)
  · refine ev_iload_n (pc := 6) (i := 1) dX10_leastOf_6 rfl rfl ?_
    refine ev_if_eq (pc := 7) (tgt := 21) dX10_leastOf_7 rfl hL rfl (fun hL => ?_) (fun hL => ?_)
    · refine ev_iconst (pc := 21) dX10_leastOf_21 ?_
      refine ev_goto (pc := 22) (tgt := 26) dX10_leastOf_22 rfl ?_
      exact evB_iret (pc := 26) dX10_leastOf_26 rfl hL
    · exact ev_le (lvle_s (lvle_s lvle_z)) (KMd_leastOf_b10  hL)
  · exact ev_le (lvle_s (lvle_s lvle_z)) (KMd_leastOf_b10  hL)
set_option maxHeartbeats 1000000 in
set_option maxRecDepth 100000 in
theorem M_Md_mostOf {ω : Wd} {z : Nat → Prop} {h h' : Hp} {a0 a1 r : Int}  (hL : Md_mostOf h a0 a1 = some (r, h')) : CtB ω N_Md_mostOf 1 [iV a0, iV a1] z h (some (iV r)) h' := by
  unfold Md_mostOf at hL
  refine Ct_of (lv := [some (iV a0), some (iV a1)]) (by decide) (Nat.le_trans (sl_1 (cat_iV _) (sl_1 (cat_iV _) sl_z)) (Nat.le_of_ble_eq_true rfl)) (la_1 (cat_iV _) (la_1 (cat_iV _) la_z)) ?_
  refine ev_iload_n (pc := 0) (i := 0) dX10_mostOf_0 rfl rfl ?_
  refine ev_bipush (pc := 1) dX10_mostOf_1 (by decide) ?_
  refine ev_icmp_ne (pc := 3) (tgt := 18) dX10_mostOf_3 rfl hL rfl (fun hL => ?_) (fun hL => ?_)
  · refine ev_iload_n (pc := 6) (i := 1) dX10_mostOf_6 rfl rfl ?_
    refine ev_if_ne (pc := 7) (tgt := 15) dX10_mostOf_7 rfl hL rfl (fun hL => ?_) (fun hL => ?_)
    · refine ev_bipush (pc := 10) dX10_mostOf_10 (by decide) ?_
      refine ev_goto (pc := 12) (tgt := 17) dX10_mostOf_12 rfl ?_
      exact evB_iret (pc := 17) dX10_mostOf_17 rfl hL
    · refine ev_bipush (pc := 15) dX10_mostOf_15 (by decide) ?_
      exact evB_iret (pc := 17) dX10_mostOf_17 rfl hL
  · refine ev_iload_n (pc := 18) (i := 0) dX10_mostOf_18 rfl rfl ?_
    refine ev_bipush (pc := 19) dX10_mostOf_19 (by decide) ?_
    refine ev_icmp_ne (pc := 21) (tgt := 33) dX10_mostOf_21 rfl hL rfl (fun hL => ?_) (fun hL => ?_)
    · refine ev_iload_n (pc := 24) (i := 1) dX10_mostOf_24 rfl rfl ?_
      refine ev_iconst (pc := 25) dX10_mostOf_25 ?_
      refine ev_icmp_ge (pc := 26) (tgt := 33) dX10_mostOf_26 rfl hL rfl (fun hL => ?_) (fun hL => ?_)
      · refine ev_iconst (pc := 29) dX10_mostOf_29 ?_
        refine ev_goto (pc := 30) (tgt := 35) dX10_mostOf_30 rfl ?_
        exact evB_iret (pc := 35) dX10_mostOf_35 rfl hL
      · refine ev_bipush (pc := 33) dX10_mostOf_33 (by decide) ?_
        exact evB_iret (pc := 35) dX10_mostOf_35 rfl hL
    · refine ev_bipush (pc := 33) dX10_mostOf_33 (by decide) ?_
      exact evB_iret (pc := 35) dX10_mostOf_35 rfl hL
set_option maxHeartbeats 1000000 in
set_option maxRecDepth 100000 in
theorem M_Md_here {ω : Wd} {z : Nat → Prop} {h h' : Hp} {a0 r : Int}  (hL : Md_here h a0 = some (r, h')) : CtB ω N_Md_here 1 [aV ω a0] z h (some (iV r)) h' := by
  unfold Md_here at hL
  refine Ct_of (lv := [some (aV ω a0)]) (by decide) (Nat.le_trans (sl_1 (cat_aV _ _) sl_z) (Nat.le_of_ble_eq_true rfl)) (la_1 (cat_aV _ _) la_z) ?_
  refine ev_aload_n (pc := 0) (i := 0) dX10_here_0 rfl rfl ?_
  obtain ⟨hs1, hL⟩ := cC_un hL
  refine ev_get (pc := 1) (c9 := 10) (k9 := 10) dX10_here_1 fl_Md_119 (by decide) hs1 gv10_10 ?_
  refine ev_aload_n (pc := 4) (i := 0) dX10_here_4 rfl rfl ?_
  refine ev_get (pc := 5) (c9 := 10) (k9 := 9) dX10_here_5 fl_Md_122 (by decide) hs1 gv10_9 ?_
  refine ev_icmp_ge (pc := 8) (tgt := 32) dX10_here_8 rfl hL rfl (fun hL => ?_) (fun hL => ?_)
  · refine ev_aload_n (pc := 11) (i := 0) dX10_here_11 rfl rfl ?_
    refine ev_get (pc := 12) (c9 := 10) (k9 := 5) dX10_here_12 fl_Md_23 (by decide) hs1 gv10_5 ?_
    refine ev_aload_n (pc := 15) (i := 0) dX10_here_15 rfl rfl ?_
    refine ev_get (pc := 16) (c9 := 10) (k9 := 8) dX10_here_16 fl_Md_125 (by decide) hs1 gv10_8 ?_
    refine ev_aload_n (pc := 19) (i := 0) dX10_here_19 rfl rfl ?_
    refine ev_get (pc := 20) (c9 := 10) (k9 := 10) dX10_here_20 fl_Md_119 (by decide) hs1 gv10_10 ?_
    refine ev_iadd (pc := 23) dX10_here_23 ?_
    obtain ⟨q2a, q2b, q2c, hL⟩ := cX_un hL
    refine ev_bald (pc := 24) dX10_here_24 q2a q2b q2c ?_
    refine ev_sipush (pc := 25) dX10_here_25 (by decide) ?_
    refine ev_iand (pc := 28) dX10_here_28 ?_
    refine ev_goto (pc := 29) (tgt := 33) dX10_here_29 rfl ?_
    exact evB_iret (pc := 33) dX10_here_33 rfl hL
  · refine ev_iconst (pc := 32) dX10_here_32 ?_
    exact evB_iret (pc := 33) dX10_here_33 rfl hL
set_option maxHeartbeats 1000000 in
set_option maxRecDepth 100000 in
theorem KMd_number_b67 {ω : Wd} {z : Nat → Prop}  {h h' : Hp} {x0 x1 x2 x4 r : Int}  (hL : Md_number_b67 h x0 x1 x2 x4 = some (r, h')) : EvB ω N_Md_number 2 (QB (some (iV r)) z h') z h 67 [some (aV ω x0), some (iV x1), some (iV x2), none, some (iV x4)] [] := by
  unfold Md_number_b67 at hL
  refine ev_aload_n (pc := 67) (i := 0) dX10_number_67 rfl rfl ?_
  obtain ⟨hs16, hL⟩ := cC_un hL
  obtain ⟨r17, h18, hc19, hL⟩ := cl_un hL
  refine evB_callV_I (pc := 68) (M_Md_isDigit hc19) dX10_number_68 mt_Md_isDigit st_Md_isDigit ml_Md_168 hs16 (by decide) ⟨_, rfl, rfl⟩ (Nat.le_of_ble_eq_true rfl) rfl rfl (Nat.le_trans sm_z (by decide)) ?_
  refine ev_if_eq (pc := 71) (tgt := 81) dX10_number_71 rfl hL rfl (fun hL => ?_) (fun hL => ?_)
  · refine ev_iload (pc := 81) dX10_number_81 rfl ?_
    refine ev_i2l (pc := 83) dX10_number_83 ?_
    refine ev_iload_n (pc := 84) (i := 1) dX10_number_84 rfl rfl ?_
    refine ev_i2l (pc := 85) dX10_number_85 ?_
    refine ev_iload_n (pc := 86) (i := 2) dX10_number_86 rfl rfl ?_
    refine ev_i2l (pc := 87) dX10_number_87 ?_
    obtain ⟨r20, h21, hc22, hL⟩ := cl_un hL
    refine evB_callS_I (pc := 88) (M_Md_isIn hc22) dX10_number_88 mt_Md_isIn st_Md_isIn ml_Md_217 (Nat.le_of_ble_eq_true rfl) rfl rfl (Nat.le_trans sm_z (by decide)) ?_
    refine ev_if_ne (pc := 91) (tgt := 109) dX10_number_91 rfl hL rfl (fun hL => ?_) (fun hL => ?_)
    · refine ev_aload_n (pc := 94) (i := 0) dX10_number_94 rfl rfl ?_
      refine ev_dup (pc := 95) dX10_number_95 (cat_aV _ _) ?_
      refine ev_get (pc := 96) (c9 := 10) (k9 := 10) dX10_number_96 fl_Md_119 (by decide) hs16 gv10_10 ?_
      refine ev_iconst (pc := 99) dX10_number_99 ?_
      refine ev_isub (pc := 100) dX10_number_100 ?_
      refine evB_putI (pc := 101) (c9 := 10) (k9 := 10) (kI := 10) dX10_number_101 fl_Md_119 hs16 (by decide) (fun q hq => by cases hq; rfl) rfl rfl rfl ?_
      refine ev_puG hL (fun h23 hL => ?_)
      refine ev_aload_n (pc := 104) (i := 0) dX10_number_104 rfl rfl ?_
      obtain ⟨r24, h25, hc26, hL⟩ := cl_un hL
      refine evB_callV_I (pc := 105) (M_Md_fails hc26) dX10_number_105 mt_Md_fails st_Md_fails ml_Md_134 hs16 (by decide) ⟨_, rfl, rfl⟩ (Nat.le_of_ble_eq_true rfl) rfl rfl (Nat.le_trans sm_z (by decide)) ?_
      refine ev_pop (pc := 108) dX10_number_108 rfl ?_
      refine ev_iload (pc := 109) dX10_number_109 rfl ?_
      exact evB_iret (pc := 111) dX10_number_111 rfl hL
    · refine ev_iload (pc := 109) dX10_number_109 rfl ?_
      exact evB_iret (pc := 111) dX10_number_111 rfl hL
  · refine ev_aload_n (pc := 74) (i := 0) dX10_number_74 rfl rfl ?_
    obtain ⟨r27, h28, hc29, hL⟩ := cl_un hL
    refine evB_callV_I (pc := 75) (M_Md_fails hc29) dX10_number_75 mt_Md_fails st_Md_fails ml_Md_134 hs16 (by decide) ⟨_, rfl, rfl⟩ (Nat.le_of_ble_eq_true rfl) rfl rfl (Nat.le_trans sm_z (by decide)) ?_
    refine ev_pop (pc := 78) dX10_number_78 rfl ?_
    refine ev_iconst (pc := 79) dX10_number_79 ?_
    exact evB_iret (pc := 80) dX10_number_80 rfl hL
set_option maxHeartbeats 1000000 in
set_option maxRecDepth 100000 in
theorem M_Md_number {ω : Wd} {z : Nat → Prop} {h h' : Hp} {a0 a1 a2 r : Int}  (hL : Md_number h a0 a1 a2 = some (r, h')) : CtB ω N_Md_number 2 [aV ω a0, iV a1, iV a2] z h (some (iV r)) h' := by
  unfold Md_number at hL
  refine Ct_of (lv := [some (aV ω a0), some (iV a1), some (iV a2), none, none]) (by decide) (Nat.le_trans (sl_1 (cat_aV _ _) (sl_1 (cat_iV _) (sl_1 (cat_iV _) sl_z))) (Nat.le_of_ble_eq_true rfl)) (la_1 (cat_aV _ _) (la_1 (cat_iV _) (la_1 (cat_iV _) (la_n (la_n la_z))))) ?_
  refine ev_aload_n (pc := 0) (i := 0) dX10_number_0 rfl rfl ?_
  obtain ⟨hs1, hL⟩ := cC_un hL
  obtain ⟨r2, h3, hc4, hL⟩ := cl_un hL
  refine evB_callV_I (pc := 1) (M_Md_look hc4) dX10_number_1 mt_Md_look st_Md_look ml_Md_138 hs1 (by decide) ⟨_, rfl, rfl⟩ (Nat.le_of_ble_eq_true rfl) rfl rfl (Nat.le_trans sm_z (by decide)) ?_
  refine ev_istore_n (pc := 4) (i := 3) dX10_number_4 rfl (lnl_v rfl rfl) (Nat.le_of_ble_eq_true rfl) ?_
  refine ev_aload_n (pc := 5) (i := 0) dX10_number_5 rfl rfl ?_
  obtain ⟨r5, h6, hc7, hL⟩ := cl_un hL
  refine evB_callV_I (pc := 6) (M_Md_isDigit hc7) dX10_number_6 mt_Md_isDigit st_Md_isDigit ml_Md_168 hs1 (by decide) ⟨_, rfl, rfl⟩ (Nat.le_of_ble_eq_true rfl) rfl rfl (Nat.le_trans sm_z (by decide)) ?_
  refine ev_if_ne (pc := 9) (tgt := 19) dX10_number_9 rfl hL rfl (fun hL => ?_) (fun hL => ?_)
  · refine ev_aload_n (pc := 12) (i := 0) dX10_number_12 rfl rfl ?_
    obtain ⟨r8, h9, hc10, hL⟩ := cl_un hL
    refine evB_callV_I (pc := 13) (M_Md_fails hc10) dX10_number_13 mt_Md_fails st_Md_fails ml_Md_134 hs1 (by decide) ⟨_, rfl, rfl⟩ (Nat.le_of_ble_eq_true rfl) rfl rfl (Nat.le_trans sm_z (by decide)) ?_
    refine ev_pop (pc := 16) dX10_number_16 rfl ?_
    refine ev_iconst (pc := 17) dX10_number_17 ?_
    exact evB_iret (pc := 18) dX10_number_18 rfl hL
  · refine ev_iload_n (pc := 19) (i := 3) dX10_number_19 rfl rfl ?_
    refine ev_bipush (pc := 20) dX10_number_20 (by decide) ?_
    refine ev_isub (pc := 22) dX10_number_22 ?_
    refine ev_bdI hL (fun v11 hL => ?_)
    refine ev_istore (pc := 23) dX10_number_23 (lnl_v rfl rfl) (Nat.le_of_ble_eq_true rfl) ?_
    refine ev_aload_n (pc := 25) (i := 0) dX10_number_25 rfl rfl ?_
    refine ev_dup (pc := 26) dX10_number_26 (cat_aV _ _) ?_
    refine ev_get (pc := 27) (c9 := 10) (k9 := 10) dX10_number_27 fl_Md_119 (by decide) hs1 gv10_10 ?_
    refine ev_iconst (pc := 30) dX10_number_30 ?_
    refine ev_iadd (pc := 31) dX10_number_31 ?_
    refine evB_putI (pc := 32) (c9 := 10) (k9 := 10) (kI := 10) dX10_number_32 fl_Md_119 hs1 (by decide) (fun q hq => by cases hq; rfl) rfl rfl rfl ?_
    refine ev_puG hL (fun h12 hL => ?_)
    refine ev_aload_n (pc := 35) (i := 0) dX10_number_35 rfl rfl ?_
    obtain ⟨r13, h14, hc15, hL⟩ := cl_un hL
    refine evB_callV_I (pc := 36) (M_Md_isDigit hc15) dX10_number_36 mt_Md_isDigit st_Md_isDigit ml_Md_168 hs1 (by decide) ⟨_, rfl, rfl⟩ (Nat.le_of_ble_eq_true rfl) rfl rfl (Nat.le_trans sm_z (by decide)) ?_
    refine ev_if_eq (pc := 39) (tgt := 67) dX10_number_39 rfl hL rfl (fun hL => ?_) (fun hL => ?_)
    · exact ev_le (lvle_s (lvle_s (lvle_s (lvle_n (lvle_s lvle_z))))) (KMd_number_b67  hL)
    · refine ev_bipush (pc := 42) dX10_number_42 (by decide) ?_
      refine ev_iload (pc := 44) dX10_number_44 rfl ?_
      refine ev_imul (pc := 46) dX10_number_46 ?_
      refine ev_aload_n (pc := 47) (i := 0) dX10_number_47 rfl rfl ?_
      obtain ⟨r30, h31, hc32, hL⟩ := cl_un hL
      refine evB_callV_I (pc := 48) (M_Md_here hc32) dX10_number_48 mt_Md_here st_Md_here ml_Md_214 hs1 (by decide) ⟨_, rfl, rfl⟩ (Nat.le_of_ble_eq_true rfl) rfl rfl (Nat.le_trans (sm_1 (cat_iV _) sm_z) (by decide)) ?_
      refine ev_iadd (pc := 51) dX10_number_51 ?_
      refine ev_bipush (pc := 52) dX10_number_52 (by decide) ?_
      refine ev_isub (pc := 54) dX10_number_54 ?_
      refine ev_bdI hL (fun v33 hL => ?_)
      refine ev_istore (pc := 55) dX10_number_55 (lnl_v rfl rfl) (Nat.le_of_ble_eq_true rfl) ?_
      refine ev_aload_n (pc := 57) (i := 0) dX10_number_57 rfl rfl ?_
      refine ev_dup (pc := 58) dX10_number_58 (cat_aV _ _) ?_
      refine ev_get (pc := 59) (c9 := 10) (k9 := 10) dX10_number_59 fl_Md_119 (by decide) hs1 gv10_10 ?_
      refine ev_iconst (pc := 62) dX10_number_62 ?_
      refine ev_iadd (pc := 63) dX10_number_63 ?_
      refine evB_putI (pc := 64) (c9 := 10) (k9 := 10) (kI := 10) dX10_number_64 fl_Md_119 hs1 (by decide) (fun q hq => by cases hq; rfl) rfl rfl rfl ?_
      refine ev_puG hL (fun h34 hL => ?_)
      exact ev_le (lvle_s (lvle_s (lvle_s (lvle_n (lvle_s lvle_z))))) (KMd_number_b67  hL)
set_option maxHeartbeats 1000000 in
set_option maxRecDepth 100000 in
theorem KMd_spotOf_b2_body {ω : Wd} {z : Nat → Prop}  {k2 : Hp × Int × Int × Int → Option (Int × Hp)} {h h' : Hp} {x0 x1 x2 r : Int}  (hk2 : ∀ s o, k2 s = some o → EvB ω N_Md_spotOf 5 (QB (some (iV o.1)) z o.2) z s.1 2 [some (aV ω s.2.1), some (iV s.2.2.1), some (iV s.2.2.2)] []) (hL : Md_spotOf_b2_body  k2 h x0 x1 x2 = some (r, h')) : EvB ω N_Md_spotOf 5 (QB (some (iV r)) z h') z h 2 [some (aV ω x0), some (iV x1), some (iV x2)] [] := by
  unfold Md_spotOf_b2_body at hL
  refine ev_iload_n (pc := 2) (i := 2) dX10_spotOf_2 rfl rfl ?_
  refine ev_aload_n (pc := 3) (i := 0) dX10_spotOf_3 rfl rfl ?_
  obtain ⟨q1a, hL⟩ := cS_un hL
  refine evB_slen (pc := 4) dX10_spotOf_4 ml_Md_99 q1a rfl (Nat.le_trans (sm_1 (cat_iV _) sm_z) (by decide)) (Nat.le_of_ble_eq_true rfl) ?_
  refine ev_icmp_ge (pc := 7) (tgt := 27) dX10_spotOf_7 rfl hL rfl (fun hL => ?_) (fun hL => ?_)
  · refine ev_aload_n (pc := 10) (i := 0) dX10_spotOf_10 rfl rfl ?_
    refine ev_iload_n (pc := 11) (i := 2) dX10_spotOf_11 rfl rfl ?_
    obtain ⟨q2a, hL⟩ := cT_un hL
    refine evB_schr (pc := 12) dX10_spotOf_12 ml_Md_105 q2a rfl (Nat.le_trans sm_z (by decide)) (Nat.le_of_ble_eq_true rfl) ?_
    refine ev_iload_n (pc := 15) (i := 1) dX10_spotOf_15 rfl rfl ?_
    refine ev_icmp_ne (pc := 16) (tgt := 21) dX10_spotOf_16 rfl hL rfl (fun hL => ?_) (fun hL => ?_)
    · refine ev_iload_n (pc := 19) (i := 2) dX10_spotOf_19 rfl rfl ?_
      exact evB_iret (pc := 20) dX10_spotOf_20 rfl hL
    · refine ev_iinc (pc := 21) dX10_spotOf_21 rfl (lnl_v rfl rfl) (Nat.le_of_ble_eq_true rfl) ?_
      refine ev_goto (pc := 24) (tgt := 2) dX10_spotOf_24 rfl ?_
      exact ev_le (lvle_s (lvle_s (lvle_s lvle_z))) (hk2 _ _ hL)
  · refine ev_iconst (pc := 27) dX10_spotOf_27 ?_
    exact evB_iret (pc := 28) dX10_spotOf_28 rfl hL
set_option maxHeartbeats 1000000 in
set_option maxRecDepth 100000 in
theorem KMd_spotOf_b2 {ω : Wd} {z : Nat → Prop}  {h h' : Hp} {x0 x1 x2 r : Int}  (hL : Md_spotOf_b2 h x0 x1 x2 = some (r, h')) : EvB ω N_Md_spotOf 5 (QB (some (iV r)) z h') z h 2 [some (aV ω x0), some (iV x1), some (iV x2)] [] := by
  unfold Md_spotOf_b2 at hL
  refine itr_link (P := fun (s : Hp × Int × Int × Int) (o : Int × Hp) => EvB ω N_Md_spotOf 5 (QB (some (iV o.1)) z o.2) z s.1 2 [some (aV ω s.2.1), some (iV s.2.2.1), some (iV s.2.2.2)] []) ?_ _ _ _ hL
  intro k hk s o h9
  have h10 := KMd_spotOf_b2_body (ω := ω) (z := z) (k2 := k) (h := s.1) (x0 := s.2.1) (x1 := s.2.2.1) (x2 := s.2.2.2) (r := o.1) (h' := o.2) 
  exact h10 hk h9
set_option maxHeartbeats 1000000 in
set_option maxRecDepth 100000 in
theorem M_Md_spotOf {ω : Wd} {z : Nat → Prop} {h h' : Hp} {a0 a1 r : Int}  (hL : Md_spotOf h a0 a1 = some (r, h')) : CtB ω N_Md_spotOf 5 [aV ω a0, iV a1] z h (some (iV r)) h' := by
  unfold Md_spotOf at hL
  refine Ct_of (lv := [some (aV ω a0), some (iV a1), none]) (by decide) (Nat.le_trans (sl_1 (cat_aV _ _) (sl_1 (cat_iV _) sl_z)) (Nat.le_of_ble_eq_true rfl)) (la_1 (cat_aV _ _) (la_1 (cat_iV _) (la_n la_z))) ?_
  refine ev_iconst (pc := 0) dX10_spotOf_0 ?_
  refine ev_istore_n (pc := 1) (i := 2) dX10_spotOf_1 rfl (lnl_v rfl rfl) (Nat.le_of_ble_eq_true rfl) ?_
  exact ev_le (lvle_s (lvle_s (lvle_s lvle_z))) (KMd_spotOf_b2  hL)
set_option maxHeartbeats 1000000 in
set_option maxRecDepth 100000 in
theorem M_Md_usual {ω : Wd} {z : Nat → Prop} {h h' : Hp} {a0 a1 r : Int}  (hL : Md_usual h a0 a1 = some (r, h')) : CtB ω N_Md_usual 1 [iV a0, iV a1] z h (some (iV r)) h' := by
  unfold Md_usual at hL
  refine Ct_of (lv := [some (iV a0), some (iV a1)]) (by decide) (Nat.le_trans (sl_1 (cat_iV _) (sl_1 (cat_iV _) sl_z)) (Nat.le_of_ble_eq_true rfl)) (la_1 (cat_iV _) (la_1 (cat_iV _) la_z)) ?_
  refine ev_iload_n (pc := 0) (i := 0) dX10_usual_0 rfl rfl ?_
  refine ev_bipush (pc := 1) dX10_usual_1 (by decide) ?_
  refine ev_icmp_ne (pc := 3) (tgt := 9) dX10_usual_3 rfl hL rfl (fun hL => ?_) (fun hL => ?_)
  · refine ev_bipush (pc := 6) dX10_usual_6 (by decide) ?_
    exact evB_iret (pc := 8) dX10_usual_8 rfl hL
  · refine ev_iload_n (pc := 9) (i := 0) dX10_usual_9 rfl rfl ?_
    refine ev_bipush (pc := 10) dX10_usual_10 (by decide) ?_
    refine ev_icmp_ne (pc := 12) (tgt := 34) dX10_usual_12 rfl hL rfl (fun hL => ?_) (fun hL => ?_)
    · refine ev_iload_n (pc := 15) (i := 1) dX10_usual_15 rfl rfl ?_
      refine ev_if_ne (pc := 16) (tgt := 23) dX10_usual_16 rfl hL rfl (fun hL => ?_) (fun hL => ?_)
      · refine ev_iconst (pc := 19) dX10_usual_19 ?_
        refine ev_goto (pc := 20) (tgt := 33) dX10_usual_20 rfl ?_
        exact evB_iret (pc := 33) dX10_usual_33 rfl hL
      · refine ev_iload_n (pc := 23) (i := 1) dX10_usual_23 rfl rfl ?_
        refine ev_iconst (pc := 24) dX10_usual_24 ?_
        refine ev_icmp_ne (pc := 25) (tgt := 32) dX10_usual_25 rfl hL rfl (fun hL => ?_) (fun hL => ?_)
        · refine ev_iconst (pc := 28) dX10_usual_28 ?_
          refine ev_goto (pc := 29) (tgt := 33) dX10_usual_29 rfl ?_
          exact evB_iret (pc := 33) dX10_usual_33 rfl hL
        · refine ev_iconst (pc := 32) dX10_usual_32 ?_
          exact evB_iret (pc := 33) dX10_usual_33 rfl hL
    · refine ev_iload_n (pc := 34) (i := 1) dX10_usual_34 rfl rfl ?_
      refine ev_if_ne (pc := 35) (tgt := 42) dX10_usual_35 rfl hL rfl (fun hL => ?_) (fun hL => ?_)
      · refine ev_iconst (pc := 38) dX10_usual_38 ?_
        refine ev_goto (pc := 39) (tgt := 52) dX10_usual_39 rfl ?_
        exact evB_iret (pc := 52) dX10_usual_52 rfl hL
      · refine ev_iload_n (pc := 42) (i := 1) dX10_usual_42 rfl rfl ?_
        refine ev_iconst (pc := 43) dX10_usual_43 ?_
        refine ev_icmp_ne (pc := 44) (tgt := 51) dX10_usual_44 rfl hL rfl (fun hL => ?_) (fun hL => ?_)
        · refine ev_iconst (pc := 47) dX10_usual_47 ?_
          refine ev_goto (pc := 48) (tgt := 52) dX10_usual_48 rfl ?_
          exact evB_iret (pc := 52) dX10_usual_52 rfl hL
        · refine ev_iconst (pc := 51) dX10_usual_51 ?_
          exact evB_iret (pc := 52) dX10_usual_52 rfl hL
set_option maxHeartbeats 1000000 in
set_option maxRecDepth 100000 in
theorem KMd_readItems_b45_body {ω : Wd} {z : Nat → Prop}  {k45 : Hp × Int × Int × Int × Int × Int × Int × Int → Option (Int × Hp)} {h h' : Hp} {x0 x1 x2 x3 x4 x5 x6 r : Int}  (hk45 : ∀ s o, k45 s = some o → EvB ω N_Md_readItems 6 (QB none z o.2) z s.1 45 [some (aV ω s.2.1), some (iV s.2.2.1), some (aV ω s.2.2.2.1), some (iV s.2.2.2.2.1), some (aV ω s.2.2.2.2.2.1), some (iV s.2.2.2.2.2.2.1), some (iV s.2.2.2.2.2.2.2)] []) (hL : Md_readItems_b45_body  k45 h x0 x1 x2 x3 x4 x5 x6 = some (r, h')) : EvB ω N_Md_readItems 6 (QB none z h') z h 45 [some (aV ω x0), some (iV x1), some (aV ω x2), some (iV x3), some (aV ω x4), some (iV x5), some (iV x6)] [] := by
  unfold Md_readItems_b45_body at hL
  refine ev_iload (pc := 45) dX10_readItems_45 rfl ?_
  refine ev_iconst (pc := 47) dX10_readItems_47 ?_
  refine ev_icmp_eq (pc := 48) (tgt := 138) dX10_readItems_48 rfl hL rfl (fun hL => ?_) (fun hL => ?_)
  · exact evB_vret (pc := 138) dX10_readItems_138 rfl hL
  · refine ev_aload_n (pc := 51) (i := 0) dX10_readItems_51 rfl rfl ?_
    obtain ⟨hs14, hL⟩ := cC_un hL
    refine ev_get (pc := 52) (c9 := 10) (k9 := 11) dX10_readItems_52 fl_Md_128 (by decide) hs14 gv10_11 ?_
    refine ev_iconst (pc := 55) dX10_readItems_55 ?_
    refine ev_icmp_ne (pc := 56) (tgt := 138) dX10_readItems_56 rfl hL rfl (fun hL => ?_) (fun hL => ?_)
    · refine ev_iload (pc := 59) dX10_readItems_59 rfl ?_
      refine ev_iload (pc := 61) dX10_readItems_61 rfl ?_
      obtain ⟨r15, h16, hc17, hL⟩ := cl_un hL
      refine evB_callS_I (pc := 63) (M_Md_has hc17) dX10_readItems_63 mt_Md_has st_Md_has ml_Md_229 (Nat.le_of_ble_eq_true rfl) rfl rfl (Nat.le_trans sm_z (by decide)) ?_
      refine ev_if_eq (pc := 66) (tgt := 75) dX10_readItems_66 rfl hL rfl (fun hL => ?_) (fun hL => ?_)
      · refine ev_iload (pc := 75) dX10_readItems_75 rfl ?_
        refine ev_iconst (pc := 77) dX10_readItems_77 ?_
        refine ev_iload (pc := 78) dX10_readItems_78 rfl ?_
        refine ev_ishl (pc := 80) dX10_readItems_80 ?_
        refine ev_ior (pc := 81) dX10_readItems_81 ?_
        refine ev_bdI hL (fun v18 hL => ?_)
        refine ev_istore (pc := 82) dX10_readItems_82 (lnl_v (cat_aV _ _) rfl) (Nat.le_of_ble_eq_true rfl) ?_
        refine ev_aload_n (pc := 84) (i := 0) dX10_readItems_84 rfl rfl ?_
        refine ev_dup (pc := 85) dX10_readItems_85 (cat_aV _ _) ?_
        refine ev_get (pc := 86) (c9 := 10) (k9 := 10) dX10_readItems_86 fl_Md_119 (by decide) hs14 gv10_10 ?_
        refine ev_iconst (pc := 89) dX10_readItems_89 ?_
        refine ev_iadd (pc := 90) dX10_readItems_90 ?_
        refine evB_putI (pc := 91) (c9 := 10) (k9 := 10) (kI := 10) dX10_readItems_91 fl_Md_119 hs14 (by decide) (fun q hq => by cases hq; rfl) rfl rfl rfl ?_
        refine ev_puG hL (fun h19 hL => ?_)
        refine ev_aload_n (pc := 94) (i := 2) dX10_readItems_94 rfl rfl ?_
        refine ev_iload_n (pc := 95) (i := 3) dX10_readItems_95 rfl rfl ?_
        refine ev_iload (pc := 96) dX10_readItems_96 rfl ?_
        refine ev_iadd (pc := 98) dX10_readItems_98 ?_
        refine ev_aload_n (pc := 99) (i := 0) dX10_readItems_99 rfl rfl ?_
        refine ev_iload_n (pc := 100) (i := 1) dX10_readItems_100 rfl rfl ?_
        refine ev_iload (pc := 101) dX10_readItems_101 rfl ?_
        obtain ⟨r20, h21, hc22, hL⟩ := cl_un hL
        refine evB_callS_I (pc := 103) (M_Md_leastOf hc22) dX10_readItems_103 mt_Md_leastOf st_Md_leastOf ml_Md_233 (Nat.le_of_ble_eq_true rfl) rfl rfl (Nat.le_trans (sm_1 (cat_aV _ _) (sm_1 (cat_iV _) (sm_1 (cat_aV _ _) sm_z))) (by decide)) ?_
        refine ev_iload_n (pc := 106) (i := 1) dX10_readItems_106 rfl rfl ?_
        refine ev_iload (pc := 107) dX10_readItems_107 rfl ?_
        obtain ⟨r23, h24, hc25, hL⟩ := cl_un hL
        refine evB_callS_I (pc := 109) (M_Md_mostOf hc25) dX10_readItems_109 mt_Md_mostOf st_Md_mostOf ml_Md_236 (Nat.le_of_ble_eq_true rfl) rfl rfl (Nat.le_trans (sm_1 (cat_iV _) (sm_1 (cat_aV _ _) (sm_1 (cat_iV _) (sm_1 (cat_aV _ _) sm_z)))) (by decide)) ?_
        obtain ⟨r26, h27, hc28, hL⟩ := cl_un hL
        refine evB_callV_I (pc := 112) (M_Md_number hc28) dX10_readItems_112 mt_Md_number st_Md_number ml_Md_239 hs14 (by decide) ⟨_, rfl, rfl⟩ (Nat.le_of_ble_eq_true rfl) rfl rfl (Nat.le_trans (sm_1 (cat_iV _) (sm_1 (cat_aV _ _) sm_z)) (by decide)) ?_
        obtain ⟨q29a, q29d, q29b, q29c, hL⟩ := cY_un hL
        refine ev_iast (pc := 115) dX10_readItems_115 q29a q29d q29b q29c ?_
        refine ev_puG hL (fun h30 hL => ?_)
        refine ev_aload_n (pc := 116) (i := 0) dX10_readItems_116 rfl rfl ?_
        refine ev_get (pc := 117) (c9 := 10) (k9 := 11) dX10_readItems_117 fl_Md_128 (by decide) hs14 gv10_11 ?_
        refine ev_iconst (pc := 120) dX10_readItems_120 ?_
        refine ev_icmp_ne (pc := 121) (tgt := 45) dX10_readItems_121 rfl hL rfl (fun hL => ?_) (fun hL => ?_)
        · refine ev_aload (pc := 124) dX10_readItems_124 rfl ?_
          refine ev_aload_n (pc := 126) (i := 0) dX10_readItems_126 rfl rfl ?_
          obtain ⟨r31, h32, hc33, hL⟩ := cl_un hL
          refine evB_callV_I (pc := 127) (M_Md_look hc33) dX10_readItems_127 mt_Md_look st_Md_look ml_Md_138 hs14 (by decide) ⟨_, rfl, rfl⟩ (Nat.le_of_ble_eq_true rfl) rfl rfl (Nat.le_trans (sm_1 (cat_aV _ _) sm_z) (by decide)) ?_
          obtain ⟨r34, h35, hc36, hL⟩ := cl_un hL
          refine evB_callS_I (pc := 130) (M_Md_spotOf hc36) dX10_readItems_130 mt_Md_spotOf st_Md_spotOf ml_Md_225 (Nat.le_of_ble_eq_true rfl) rfl rfl (Nat.le_trans sm_z (by decide)) ?_
          refine ev_istore (pc := 133) dX10_readItems_133 (lnl_v rfl rfl) (Nat.le_of_ble_eq_true rfl) ?_
          refine ev_goto (pc := 135) (tgt := 45) dX10_readItems_135 rfl ?_
          exact ev_le (lvle_s (lvle_s (lvle_s (lvle_s (lvle_s (lvle_s (lvle_s lvle_z))))))) (hk45 _ _ hL)
        · exact ev_le (lvle_s (lvle_s (lvle_s (lvle_s (lvle_s (lvle_s (lvle_s lvle_z))))))) (hk45 _ _ hL)
      · refine ev_aload_n (pc := 69) (i := 0) dX10_readItems_69 rfl rfl ?_
        obtain ⟨r37, h38, hc39, hL⟩ := cl_un hL
        refine evB_callV_I (pc := 70) (M_Md_fails hc39) dX10_readItems_70 mt_Md_fails st_Md_fails ml_Md_134 hs14 (by decide) ⟨_, rfl, rfl⟩ (Nat.le_of_ble_eq_true rfl) rfl rfl (Nat.le_trans sm_z (by decide)) ?_
        refine ev_pop (pc := 73) dX10_readItems_73 rfl ?_
        exact evB_vret (pc := 74) dX10_readItems_74 rfl hL
    · exact evB_vret (pc := 138) dX10_readItems_138 rfl hL
set_option maxHeartbeats 1000000 in
set_option maxRecDepth 100000 in
theorem KMd_readItems_b45 {ω : Wd} {z : Nat → Prop}  {h h' : Hp} {x0 x1 x2 x3 x4 x5 x6 r : Int}  (hL : Md_readItems_b45 h x0 x1 x2 x3 x4 x5 x6 = some (r, h')) : EvB ω N_Md_readItems 6 (QB none z h') z h 45 [some (aV ω x0), some (iV x1), some (aV ω x2), some (iV x3), some (aV ω x4), some (iV x5), some (iV x6)] [] := by
  unfold Md_readItems_b45 at hL
  refine itr_link (P := fun (s : Hp × Int × Int × Int × Int × Int × Int × Int) (o : Int × Hp) => EvB ω N_Md_readItems 6 (QB none z o.2) z s.1 45 [some (aV ω s.2.1), some (iV s.2.2.1), some (aV ω s.2.2.2.1), some (iV s.2.2.2.2.1), some (aV ω s.2.2.2.2.2.1), some (iV s.2.2.2.2.2.2.1), some (iV s.2.2.2.2.2.2.2)] []) ?_ _ _ _ hL
  intro k hk s o h9
  have h10 := KMd_readItems_b45_body (ω := ω) (z := z) (k45 := k) (h := s.1) (x0 := s.2.1) (x1 := s.2.2.1) (x2 := s.2.2.2.1) (x3 := s.2.2.2.2.1) (x4 := s.2.2.2.2.2.1) (x5 := s.2.2.2.2.2.2.1) (x6 := s.2.2.2.2.2.2.2) (r := o.1) (h' := o.2) 
  exact h10 hk h9
set_option maxHeartbeats 1000000 in
set_option maxRecDepth 100000 in
theorem KMd_readItems_b3_body {ω : Wd} {z : Nat → Prop}  {k3 : Hp × Int × Int × Int × Int × Int × Int → Option (Int × Hp)} {h h' : Hp} {x0 x1 x2 x3 x4 x5 r : Int}  (hk3 : ∀ s o, k3 s = some o → EvB ω N_Md_readItems 6 (QB none z o.2) z s.1 3 [some (aV ω s.2.1), some (iV s.2.2.1), some (aV ω s.2.2.2.1), some (iV s.2.2.2.2.1), some (aV ω s.2.2.2.2.2.1), some (iV s.2.2.2.2.2.2), none] []) (hL : Md_readItems_b3_body  k3 h x0 x1 x2 x3 x4 x5 = some (r, h')) : EvB ω N_Md_readItems 6 (QB none z h') z h 3 [some (aV ω x0), some (iV x1), some (aV ω x2), some (iV x3), some (aV ω x4), some (iV x5), none] [] := by
  unfold Md_readItems_b3_body at hL
  refine ev_iload (pc := 3) dX10_readItems_3 rfl ?_
  refine ev_aload (pc := 5) dX10_readItems_5 rfl ?_
  obtain ⟨q1a, hL⟩ := cS_un hL
  refine evB_slen (pc := 7) dX10_readItems_7 ml_Md_99 q1a rfl (Nat.le_trans (sm_1 (cat_iV _) sm_z) (by decide)) (Nat.le_of_ble_eq_true rfl) ?_
  refine ev_icmp_ge (pc := 10) (tgt := 31) dX10_readItems_10 rfl hL rfl (fun hL => ?_) (fun hL => ?_)
  · refine ev_aload_n (pc := 13) (i := 2) dX10_readItems_13 rfl rfl ?_
    refine ev_iload_n (pc := 14) (i := 3) dX10_readItems_14 rfl rfl ?_
    refine ev_iload (pc := 15) dX10_readItems_15 rfl ?_
    refine ev_iadd (pc := 17) dX10_readItems_17 ?_
    refine ev_iload_n (pc := 18) (i := 1) dX10_readItems_18 rfl rfl ?_
    refine ev_iload (pc := 19) dX10_readItems_19 rfl ?_
    obtain ⟨r2, h3, hc4, hL⟩ := cl_un hL
    refine evB_callS_I (pc := 21) (M_Md_usual hc4) dX10_readItems_21 mt_Md_usual st_Md_usual ml_Md_221 (Nat.le_of_ble_eq_true rfl) rfl rfl (Nat.le_trans (sm_1 (cat_iV _) (sm_1 (cat_aV _ _) sm_z)) (by decide)) ?_
    obtain ⟨q5a, q5d, q5b, q5c, hL⟩ := cY_un hL
    refine ev_iast (pc := 24) dX10_readItems_24 q5a q5d q5b q5c ?_
    refine ev_puG hL (fun h6 hL => ?_)
    refine ev_iinc (pc := 25) dX10_readItems_25 rfl (lnl_v (cat_aV _ _) rfl) (Nat.le_of_ble_eq_true rfl) ?_
    refine ev_goto (pc := 28) (tgt := 3) dX10_readItems_28 rfl ?_
    exact ev_le (lvle_s (lvle_s (lvle_s (lvle_s (lvle_s (lvle_s (lvle_n lvle_z))))))) (hk3 _ _ hL)
  · refine ev_iconst (pc := 31) dX10_readItems_31 ?_
    refine ev_istore (pc := 32) dX10_readItems_32 (lnl_v (cat_aV _ _) rfl) (Nat.le_of_ble_eq_true rfl) ?_
    refine ev_aload (pc := 34) dX10_readItems_34 rfl ?_
    refine ev_aload_n (pc := 36) (i := 0) dX10_readItems_36 rfl rfl ?_
    obtain ⟨hs7, hL⟩ := cC_un hL
    obtain ⟨r8, h9, hc10, hL⟩ := cl_un hL
    refine evB_callV_I (pc := 37) (M_Md_look hc10) dX10_readItems_37 mt_Md_look st_Md_look ml_Md_138 hs7 (by decide) ⟨_, rfl, rfl⟩ (Nat.le_of_ble_eq_true rfl) rfl rfl (Nat.le_trans (sm_1 (cat_aV _ _) sm_z) (by decide)) ?_
    obtain ⟨r11, h12, hc13, hL⟩ := cl_un hL
    refine evB_callS_I (pc := 40) (M_Md_spotOf hc13) dX10_readItems_40 mt_Md_spotOf st_Md_spotOf ml_Md_225 (Nat.le_of_ble_eq_true rfl) rfl rfl (Nat.le_trans sm_z (by decide)) ?_
    refine ev_istore (pc := 43) dX10_readItems_43 (lnl_v rfl rfl) (Nat.le_of_ble_eq_true rfl) ?_
    exact ev_le (lvle_s (lvle_s (lvle_s (lvle_s (lvle_s (lvle_s (lvle_s lvle_z))))))) (KMd_readItems_b45  hL)
set_option maxHeartbeats 1000000 in
set_option maxRecDepth 100000 in
theorem KMd_readItems_b3 {ω : Wd} {z : Nat → Prop}  {h h' : Hp} {x0 x1 x2 x3 x4 x5 r : Int}  (hL : Md_readItems_b3 h x0 x1 x2 x3 x4 x5 = some (r, h')) : EvB ω N_Md_readItems 6 (QB none z h') z h 3 [some (aV ω x0), some (iV x1), some (aV ω x2), some (iV x3), some (aV ω x4), some (iV x5), none] [] := by
  unfold Md_readItems_b3 at hL
  refine itr_link (P := fun (s : Hp × Int × Int × Int × Int × Int × Int) (o : Int × Hp) => EvB ω N_Md_readItems 6 (QB none z o.2) z s.1 3 [some (aV ω s.2.1), some (iV s.2.2.1), some (aV ω s.2.2.2.1), some (iV s.2.2.2.2.1), some (aV ω s.2.2.2.2.2.1), some (iV s.2.2.2.2.2.2), none] []) ?_ _ _ _ hL
  intro k hk s o h9
  have h10 := KMd_readItems_b3_body (ω := ω) (z := z) (k3 := k) (h := s.1) (x0 := s.2.1) (x1 := s.2.2.1) (x2 := s.2.2.2.1) (x3 := s.2.2.2.2.1) (x4 := s.2.2.2.2.2.1) (x5 := s.2.2.2.2.2.2) (r := o.1) (h' := o.2) 
  exact h10 hk h9
set_option maxHeartbeats 1000000 in
set_option maxRecDepth 100000 in
theorem M_Md_readItems {ω : Wd} {z : Nat → Prop} {h h' : Hp} {a0 a1 a2 a3 a4 r : Int}  (hL : Md_readItems h a0 a1 a2 a3 a4 = some (r, h')) : CtB ω N_Md_readItems 6 [aV ω a0, iV a1, aV ω a2, iV a3, aV ω a4] z h none h' := by
  unfold Md_readItems at hL
  refine Ct_of (lv := [some (aV ω a0), some (iV a1), some (aV ω a2), some (iV a3), some (aV ω a4), none, none]) (by decide) (Nat.le_trans (sl_1 (cat_aV _ _) (sl_1 (cat_iV _) (sl_1 (cat_aV _ _) (sl_1 (cat_iV _) (sl_1 (cat_aV _ _) sl_z))))) (Nat.le_of_ble_eq_true rfl)) (la_1 (cat_aV _ _) (la_1 (cat_iV _) (la_1 (cat_aV _ _) (la_1 (cat_iV _) (la_1 (cat_aV _ _) (la_n (la_n la_z))))))) ?_
  refine ev_iconst (pc := 0) dX10_readItems_0 ?_
  refine ev_istore (pc := 1) dX10_readItems_1 (lnl_v (cat_aV _ _) rfl) (Nat.le_of_ble_eq_true rfl) ?_
  exact ev_le (lvle_s (lvle_s (lvle_s (lvle_s (lvle_s (lvle_s (lvle_n lvle_z))))))) (KMd_readItems_b3  hL)
set_option maxHeartbeats 1000000 in
set_option maxRecDepth 100000 in
theorem KMd_readClause_b53 {ω : Wd} {z : Nat → Prop}  {h h' : Hp} {x0 x1 y0 r : Int}  (hL : Md_readClause_b53 h x0 x1 y0 = some (r, h')) : EvB ω N_Md_readClause 7 (QB none z h') z h 53 [some (aV ω x0), some (iV x1), none] [iV y0] := by
  unfold Md_readClause_b53 at hL
  refine ev_istore_n (pc := 53) (i := 2) dX10_readClause_53 rfl (lnl_v rfl rfl) (Nat.le_of_ble_eq_true rfl) ?_
  refine ev_iload_n (pc := 54) (i := 2) dX10_readClause_54 rfl rfl ?_
  refine ev_if_ne (pc := 55) (tgt := 64) dX10_readClause_55 rfl hL rfl (fun hL => ?_) (fun hL => ?_)
  · refine ev_aload_n (pc := 58) (i := 0) dX10_readClause_58 rfl rfl ?_
    obtain ⟨hs5, hL⟩ := cC_un hL
    obtain ⟨r6, h7, hc8, hL⟩ := cl_un hL
    refine evB_callV_I (pc := 59) (M_Md_fails hc8) dX10_readClause_59 mt_Md_fails st_Md_fails ml_Md_134 hs5 (by decide) ⟨_, rfl, rfl⟩ (Nat.le_of_ble_eq_true rfl) rfl rfl (Nat.le_trans sm_z (by decide)) ?_
    refine ev_pop (pc := 62) dX10_readClause_62 rfl ?_
    exact evB_vret (pc := 63) dX10_readClause_63 rfl hL
  · refine ev_aload_n (pc := 64) (i := 0) dX10_readClause_64 rfl rfl ?_
    refine ev_dup (pc := 65) dX10_readClause_65 (cat_aV _ _) ?_
    obtain ⟨hs9, hL⟩ := cC_un hL
    refine ev_get (pc := 66) (c9 := 10) (k9 := 10) dX10_readClause_66 fl_Md_119 (by decide) hs9 gv10_10 ?_
    refine ev_iconst (pc := 69) dX10_readClause_69 ?_
    refine ev_iadd (pc := 70) dX10_readClause_70 ?_
    refine evB_putI (pc := 71) (c9 := 10) (k9 := 10) (kI := 10) dX10_readClause_71 fl_Md_119 hs9 (by decide) (fun q hq => by cases hq; rfl) rfl rfl rfl ?_
    refine ev_puG hL (fun h10 hL => ?_)
    refine ev_iload_n (pc := 74) (i := 1) dX10_readClause_74 rfl rfl ?_
    refine ev_bipush (pc := 75) dX10_readClause_75 (by decide) ?_
    refine ev_icmp_ne (pc := 77) (tgt := 100) dX10_readClause_77 rfl hL rfl (fun hL => ?_) (fun hL => ?_)
    · refine ev_aload_n (pc := 80) (i := 0) dX10_readClause_80 rfl rfl ?_
      refine ev_iconst (pc := 81) dX10_readClause_81 ?_
      refine evB_putZ (pc := 82) (c9 := 10) (k9 := 31) (kI := 31) dX10_readClause_82 fl_Md_242 hs9 (by decide) (fun q hq => by cases hq; rfl) rfl rfl (by decide) rfl ?_
      refine ev_puG hL (fun h11 hL => ?_)
      refine ev_aload_n (pc := 85) (i := 0) dX10_readClause_85 rfl rfl ?_
      refine ev_iload_n (pc := 86) (i := 1) dX10_readClause_86 rfl rfl ?_
      refine ev_aload_n (pc := 87) (i := 0) dX10_readClause_87 rfl rfl ?_
      refine ev_get (pc := 88) (c9 := 10) (k9 := 19) dX10_readClause_88 fl_Md_40 (by decide) hs9 (gv10_19 hs9) ?_
      refine ev_iconst (pc := 91) dX10_readClause_91 ?_
      refine ev_ldcS (pc := 92) (n := 3) (by decide) rfl rfl dX10_readClause_92 ?_
      obtain ⟨r12, h13, hc14, hL⟩ := cl_un hL
      refine evB_callV_V (pc := 94) (M_Md_readItems hc14) dX10_readClause_94 mt_Md_readItems st_Md_readItems ml_Md_253 hs9 (by decide) ⟨_, rfl, rfl⟩ (Nat.le_of_ble_eq_true rfl) rfl rfl (Nat.le_trans sm_z (by decide)) ?_
      refine ev_goto (pc := 97) (tgt := 169) dX10_readClause_97 rfl ?_
      exact evB_vret (pc := 169) dX10_readClause_169 rfl hL
    · refine ev_iload_n (pc := 100) (i := 1) dX10_readClause_100 rfl rfl ?_
      refine ev_bipush (pc := 101) dX10_readClause_101 (by decide) ?_
      refine ev_icmp_ne (pc := 103) (tgt := 139) dX10_readClause_103 rfl hL rfl (fun hL => ?_) (fun hL => ?_)
      · refine ev_aload_n (pc := 106) (i := 0) dX10_readClause_106 rfl rfl ?_
        refine ev_dup (pc := 107) dX10_readClause_107 (cat_aV _ _) ?_
        refine ev_get (pc := 108) (c9 := 10) (k9 := 28) dX10_readClause_108 fl_Md_245 (by decide) hs9 gv10_28 ?_
        refine ev_iconst (pc := 111) dX10_readClause_111 ?_
        refine ev_iadd (pc := 112) dX10_readClause_112 ?_
        refine evB_putI (pc := 113) (c9 := 10) (k9 := 28) (kI := 28) dX10_readClause_113 fl_Md_245 hs9 (by decide) (fun q hq => by cases hq; rfl) rfl rfl rfl ?_
        refine ev_puG hL (fun h15 hL => ?_)
        refine ev_aload_n (pc := 116) (i := 0) dX10_readClause_116 rfl rfl ?_
        refine ev_iload_n (pc := 117) (i := 1) dX10_readClause_117 rfl rfl ?_
        refine ev_aload_n (pc := 118) (i := 0) dX10_readClause_118 rfl rfl ?_
        refine ev_get (pc := 119) (c9 := 10) (k9 := 21) dX10_readClause_119 fl_Md_46 (by decide) hs9 (gv10_21 hs9) ?_
        refine ev_iconst (pc := 122) dX10_readClause_122 ?_
        refine ev_aload_n (pc := 123) (i := 0) dX10_readClause_123 rfl rfl ?_
        refine ev_get (pc := 124) (c9 := 10) (k9 := 28) dX10_readClause_124 fl_Md_245 (by decide) hs9 gv10_28 ?_
        refine ev_iconst (pc := 127) dX10_readClause_127 ?_
        refine ev_isub (pc := 128) dX10_readClause_128 ?_
        refine ev_imul (pc := 129) dX10_readClause_129 ?_
        refine ev_ldcwS (pc := 130) (n := 4) (by decide) rfl rfl dX10_readClause_130 ?_
        obtain ⟨r16, h17, hc18, hL⟩ := cl_un hL
        refine evB_callV_V (pc := 133) (M_Md_readItems hc18) dX10_readClause_133 mt_Md_readItems st_Md_readItems ml_Md_253 hs9 (by decide) ⟨_, rfl, rfl⟩ (Nat.le_of_ble_eq_true rfl) rfl rfl (Nat.le_trans sm_z (by decide)) ?_
        refine ev_goto (pc := 136) (tgt := 169) dX10_readClause_136 rfl ?_
        exact evB_vret (pc := 169) dX10_readClause_169 rfl hL
      · refine ev_aload_n (pc := 139) (i := 0) dX10_readClause_139 rfl rfl ?_
        refine ev_dup (pc := 140) dX10_readClause_140 (cat_aV _ _) ?_
        refine ev_get (pc := 141) (c9 := 10) (k9 := 29) dX10_readClause_141 fl_Md_248 (by decide) hs9 gv10_29 ?_
        refine ev_iconst (pc := 144) dX10_readClause_144 ?_
        refine ev_iadd (pc := 145) dX10_readClause_145 ?_
        refine evB_putI (pc := 146) (c9 := 10) (k9 := 29) (kI := 29) dX10_readClause_146 fl_Md_248 hs9 (by decide) (fun q hq => by cases hq; rfl) rfl rfl rfl ?_
        refine ev_puG hL (fun h19 hL => ?_)
        refine ev_aload_n (pc := 149) (i := 0) dX10_readClause_149 rfl rfl ?_
        refine ev_iload_n (pc := 150) (i := 1) dX10_readClause_150 rfl rfl ?_
        refine ev_aload_n (pc := 151) (i := 0) dX10_readClause_151 rfl rfl ?_
        refine ev_get (pc := 152) (c9 := 10) (k9 := 23) dX10_readClause_152 fl_Md_52 (by decide) hs9 (gv10_23 hs9) ?_
        refine ev_iconst (pc := 155) dX10_readClause_155 ?_
        refine ev_aload_n (pc := 156) (i := 0) dX10_readClause_156 rfl rfl ?_
        refine ev_get (pc := 157) (c9 := 10) (k9 := 29) dX10_readClause_157 fl_Md_248 (by decide) hs9 gv10_29 ?_
        refine ev_iconst (pc := 160) dX10_readClause_160 ?_
        refine ev_isub (pc := 161) dX10_readClause_161 ?_
        refine ev_imul (pc := 162) dX10_readClause_162 ?_
        refine ev_ldcwS (pc := 163) (n := 5) (by decide) rfl rfl dX10_readClause_163 ?_
        obtain ⟨r20, h21, hc22, hL⟩ := cl_un hL
        refine evB_callV_V (pc := 166) (M_Md_readItems hc22) dX10_readClause_166 mt_Md_readItems st_Md_readItems ml_Md_253 hs9 (by decide) ⟨_, rfl, rfl⟩ (Nat.le_of_ble_eq_true rfl) rfl rfl (Nat.le_trans sm_z (by decide)) ?_
        exact evB_vret (pc := 169) dX10_readClause_169 rfl hL
set_option maxHeartbeats 1000000 in
set_option maxRecDepth 100000 in
theorem KMd_readClause_b33 {ω : Wd} {z : Nat → Prop}  {h h' : Hp} {x0 x1 r : Int}  (hL : Md_readClause_b33 h x0 x1 = some (r, h')) : EvB ω N_Md_readClause 7 (QB none z h') z h 33 [some (aV ω x0), some (iV x1), none] [] := by
  unfold Md_readClause_b33 at hL
  refine ev_iload_n (pc := 33) (i := 1) dX10_readClause_33 rfl rfl ?_
  refine ev_bipush (pc := 34) dX10_readClause_34 (by decide) ?_
  refine ev_icmp_ne (pc := 36) (tgt := 52) dX10_readClause_36 rfl hL rfl (fun hL => ?_) (fun hL => ?_)
  · refine ev_aload_n (pc := 39) (i := 0) dX10_readClause_39 rfl rfl ?_
    obtain ⟨hs24, hL⟩ := cC_un hL
    refine ev_get (pc := 40) (c9 := 10) (k9 := 29) dX10_readClause_40 fl_Md_248 (by decide) hs24 gv10_29 ?_
    refine ev_bipush (pc := 43) dX10_readClause_43 (by decide) ?_
    refine ev_icmp_ge (pc := 45) (tgt := 52) dX10_readClause_45 rfl hL rfl (fun hL => ?_) (fun hL => ?_)
    · refine ev_iconst (pc := 48) dX10_readClause_48 ?_
      refine ev_goto (pc := 49) (tgt := 53) dX10_readClause_49 rfl ?_
      exact ev_le (lvle_s (lvle_s (lvle_n lvle_z))) (KMd_readClause_b53  hL)
    · refine ev_iconst (pc := 52) dX10_readClause_52 ?_
      exact ev_le (lvle_s (lvle_s (lvle_n lvle_z))) (KMd_readClause_b53  hL)
  · refine ev_iconst (pc := 52) dX10_readClause_52 ?_
    exact ev_le (lvle_s (lvle_s (lvle_n lvle_z))) (KMd_readClause_b53  hL)
set_option maxHeartbeats 1000000 in
set_option maxRecDepth 100000 in
theorem KMd_readClause_b18 {ω : Wd} {z : Nat → Prop}  {h h' : Hp} {x0 x1 r : Int}  (hL : Md_readClause_b18 h x0 x1 = some (r, h')) : EvB ω N_Md_readClause 7 (QB none z h') z h 18 [some (aV ω x0), some (iV x1), none] [] := by
  unfold Md_readClause_b18 at hL
  refine ev_iload_n (pc := 18) (i := 1) dX10_readClause_18 rfl rfl ?_
  refine ev_bipush (pc := 19) dX10_readClause_19 (by decide) ?_
  refine ev_icmp_ne (pc := 21) (tgt := 33) dX10_readClause_21 rfl hL rfl (fun hL => ?_) (fun hL => ?_)
  · refine ev_aload_n (pc := 24) (i := 0) dX10_readClause_24 rfl rfl ?_
    obtain ⟨hs23, hL⟩ := cC_un hL
    refine ev_get (pc := 25) (c9 := 10) (k9 := 28) dX10_readClause_25 fl_Md_245 (by decide) hs23 gv10_28 ?_
    refine ev_bipush (pc := 28) dX10_readClause_28 (by decide) ?_
    refine ev_icmp_lt (pc := 30) (tgt := 48) dX10_readClause_30 rfl hL rfl (fun hL => ?_) (fun hL => ?_)
    · refine ev_iconst (pc := 48) dX10_readClause_48 ?_
      refine ev_goto (pc := 49) (tgt := 53) dX10_readClause_49 rfl ?_
      exact ev_le (lvle_s (lvle_s (lvle_n lvle_z))) (KMd_readClause_b53  hL)
    · exact ev_le (lvle_s (lvle_s (lvle_n lvle_z))) (KMd_readClause_b33  hL)
  · exact ev_le (lvle_s (lvle_s (lvle_n lvle_z))) (KMd_readClause_b33  hL)
set_option maxHeartbeats 1000000 in
set_option maxRecDepth 100000 in
theorem M_Md_readClause {ω : Wd} {z : Nat → Prop} {h h' : Hp} {a0 r : Int}  (hL : Md_readClause h a0 = some (r, h')) : CtB ω N_Md_readClause 7 [aV ω a0] z h none h' := by
  unfold Md_readClause at hL
  refine Ct_of (lv := [some (aV ω a0), none, none]) (by decide) (Nat.le_trans (sl_1 (cat_aV _ _) sl_z) (Nat.le_of_ble_eq_true rfl)) (la_1 (cat_aV _ _) (la_n (la_n la_z))) ?_
  refine ev_aload_n (pc := 0) (i := 0) dX10_readClause_0 rfl rfl ?_
  obtain ⟨hs1, hL⟩ := cC_un hL
  obtain ⟨r2, h3, hc4, hL⟩ := cl_un hL
  refine evB_callV_I (pc := 1) (M_Md_look hc4) dX10_readClause_1 mt_Md_look st_Md_look ml_Md_138 hs1 (by decide) ⟨_, rfl, rfl⟩ (Nat.le_of_ble_eq_true rfl) rfl rfl (Nat.le_trans sm_z (by decide)) ?_
  refine ev_istore_n (pc := 4) (i := 1) dX10_readClause_4 rfl (lnl_v (cat_aV _ _) rfl) (Nat.le_of_ble_eq_true rfl) ?_
  refine ev_iload_n (pc := 5) (i := 1) dX10_readClause_5 rfl rfl ?_
  refine ev_bipush (pc := 6) dX10_readClause_6 (by decide) ?_
  refine ev_icmp_ne (pc := 8) (tgt := 18) dX10_readClause_8 rfl hL rfl (fun hL => ?_) (fun hL => ?_)
  · refine ev_aload_n (pc := 11) (i := 0) dX10_readClause_11 rfl rfl ?_
    refine ev_get (pc := 12) (c9 := 10) (k9 := 31) dX10_readClause_12 fl_Md_242 (by decide) hs1 gv10_31 ?_
    refine ev_if_eq (pc := 15) (tgt := 48) dX10_readClause_15 rfl hL rfl (fun hL => ?_) (fun hL => ?_)
    · refine ev_iconst (pc := 48) dX10_readClause_48 ?_
      refine ev_goto (pc := 49) (tgt := 53) dX10_readClause_49 rfl ?_
      exact ev_le (lvle_s (lvle_s (lvle_n lvle_z))) (KMd_readClause_b53  hL)
    · exact ev_le (lvle_s (lvle_s (lvle_n lvle_z))) (KMd_readClause_b18  hL)
  · exact ev_le (lvle_s (lvle_s (lvle_n lvle_z))) (KMd_readClause_b18  hL)
set_option maxHeartbeats 1000000 in
set_option maxRecDepth 100000 in
theorem KMd_readCounty_b125 {ω : Wd} {z : Nat → Prop}  {h h' : Hp} {x0 r : Int}  (hL : Md_readCounty_b125 h x0 = some (r, h')) : EvB ω N_Md_readCounty 8 (QB none z h') z h 125 [some (aV ω x0), none] [] := by
  unfold Md_readCounty_b125 at hL
  refine ev_aload_n (pc := 125) (i := 0) dX10_readCounty_125 rfl rfl ?_
  obtain ⟨hs19, hL⟩ := cC_un hL
  obtain ⟨r20, h21, hc22, hL⟩ := cl_un hL
  refine evB_callV_I (pc := 126) (M_Md_fails hc22) dX10_readCounty_126 mt_Md_fails st_Md_fails ml_Md_134 hs19 (by decide) ⟨_, rfl, rfl⟩ (Nat.le_of_ble_eq_true rfl) rfl rfl (Nat.le_trans sm_z (by decide)) ?_
  refine ev_pop (pc := 129) dX10_readCounty_129 rfl ?_
  exact evB_vret (pc := 130) dX10_readCounty_130 rfl hL
set_option maxHeartbeats 1000000 in
set_option maxRecDepth 100000 in
theorem KMd_readCounty_b102 {ω : Wd} {z : Nat → Prop}  {h h' : Hp} {x0 r : Int}  (hL : Md_readCounty_b102 h x0 = some (r, h')) : EvB ω N_Md_readCounty 8 (QB none z h') z h 102 [some (aV ω x0), none] [] := by
  unfold Md_readCounty_b102 at hL
  refine ev_aload_n (pc := 102) (i := 0) dX10_readCounty_102 rfl rfl ?_
  obtain ⟨hs12, hL⟩ := cC_un hL
  refine ev_get (pc := 103) (c9 := 10) (k9 := 11) dX10_readCounty_103 fl_Md_128 (by decide) hs12 gv10_11 ?_
  refine ev_iconst (pc := 106) dX10_readCounty_106 ?_
  refine ev_icmp_ne (pc := 107) (tgt := 130) dX10_readCounty_107 rfl hL rfl (fun hL => ?_) (fun hL => ?_)
  · refine ev_aload_n (pc := 110) (i := 0) dX10_readCounty_110 rfl rfl ?_
    obtain ⟨r13, h14, hc15, hL⟩ := cl_un hL
    refine evB_callV_I (pc := 111) (M_Md_look hc15) dX10_readCounty_111 mt_Md_look st_Md_look ml_Md_138 hs12 (by decide) ⟨_, rfl, rfl⟩ (Nat.le_of_ble_eq_true rfl) rfl rfl (Nat.le_trans sm_z (by decide)) ?_
    refine ev_iconst (pc := 114) dX10_readCounty_114 ?_
    refine ev_icmp_ne (pc := 115) (tgt := 125) dX10_readCounty_115 rfl hL rfl (fun hL => ?_) (fun hL => ?_)
    · refine ev_aload_n (pc := 118) (i := 0) dX10_readCounty_118 rfl rfl ?_
      obtain ⟨r16, h17, hc18, hL⟩ := cl_un hL
      refine evB_callV_I (pc := 119) (M_Md_isWhole hc18) dX10_readCounty_119 mt_Md_isWhole st_Md_isWhole ml_Md_264 hs12 (by decide) ⟨_, rfl, rfl⟩ (Nat.le_of_ble_eq_true rfl) rfl rfl (Nat.le_trans sm_z (by decide)) ?_
      refine ev_if_ne (pc := 122) (tgt := 130) dX10_readCounty_122 rfl hL rfl (fun hL => ?_) (fun hL => ?_)
      · exact ev_le (lvle_s (lvle_n lvle_z)) (KMd_readCounty_b125  hL)
      · exact evB_vret (pc := 130) dX10_readCounty_130 rfl hL
    · exact ev_le (lvle_s (lvle_n lvle_z)) (KMd_readCounty_b125  hL)
  · exact evB_vret (pc := 130) dX10_readCounty_130 rfl hL
set_option maxHeartbeats 1000000 in
set_option maxRecDepth 100000 in
theorem KMd_readCounty_b84 {ω : Wd} {z : Nat → Prop} {k46 : Hp × Int × Int → Option (Int × Hp)} {h h' : Hp} {x0 y0 r : Int} (hk46 : ∀ s o, k46 s = some o → EvB ω N_Md_readCounty 8 (QB none z o.2) z s.1 46 [some (aV ω s.2.1), some (iV s.2.2)] []) (hL : Md_readCounty_b84 k46 h x0 y0 = some (r, h')) : EvB ω N_Md_readCounty 8 (QB none z h') z h 84 [some (aV ω x0), none] [iV y0] := by
  unfold Md_readCounty_b84 at hL
  refine ev_istore_n (pc := 84) (i := 1) dX10_readCounty_84 rfl (lnl_v (cat_aV _ _) rfl) (Nat.le_of_ble_eq_true rfl) ?_
  refine ev_iload_n (pc := 85) (i := 1) dX10_readCounty_85 rfl rfl ?_
  refine ev_if_eq (pc := 86) (tgt := 46) dX10_readCounty_86 rfl hL rfl (fun hL => ?_) (fun hL => ?_)
  · exact ev_le (lvle_s (lvle_s lvle_z)) (hk46 _ _ hL)
  · refine ev_aload_n (pc := 89) (i := 0) dX10_readCounty_89 rfl rfl ?_
    refine ev_dup (pc := 90) dX10_readCounty_90 (cat_aV _ _) ?_
    obtain ⟨hs30, hL⟩ := cC_un hL
    refine ev_get (pc := 91) (c9 := 10) (k9 := 10) dX10_readCounty_91 fl_Md_119 (by decide) hs30 gv10_10 ?_
    refine ev_iconst (pc := 94) dX10_readCounty_94 ?_
    refine ev_iadd (pc := 95) dX10_readCounty_95 ?_
    refine evB_putI (pc := 96) (c9 := 10) (k9 := 10) (kI := 10) dX10_readCounty_96 fl_Md_119 hs30 (by decide) (fun q hq => by cases hq; rfl) rfl rfl rfl ?_
    refine ev_puG hL (fun h31 hL => ?_)
    refine ev_goto (pc := 99) (tgt := 46) dX10_readCounty_99 rfl ?_
    exact ev_le (lvle_s (lvle_s lvle_z)) (hk46 _ _ hL)
set_option maxHeartbeats 1000000 in
set_option maxRecDepth 100000 in
theorem KMd_readCounty_b46_body {ω : Wd} {z : Nat → Prop}  {k46 : Hp × Int × Int → Option (Int × Hp)} {h h' : Hp} {x0 x1 r : Int}  (hk46 : ∀ s o, k46 s = some o → EvB ω N_Md_readCounty 8 (QB none z o.2) z s.1 46 [some (aV ω s.2.1), some (iV s.2.2)] []) (hL : Md_readCounty_b46_body  k46 h x0 x1 = some (r, h')) : EvB ω N_Md_readCounty 8 (QB none z h') z h 46 [some (aV ω x0), some (iV x1)] [] := by
  unfold Md_readCounty_b46_body at hL
  refine ev_iload_n (pc := 46) (i := 1) dX10_readCounty_46 rfl rfl ?_
  refine ev_if_eq (pc := 47) (tgt := 102) dX10_readCounty_47 rfl hL rfl (fun hL => ?_) (fun hL => ?_)
  · exact ev_le (lvle_s (lvle_n lvle_z)) (KMd_readCounty_b102  hL)
  · refine ev_aload_n (pc := 50) (i := 0) dX10_readCounty_50 rfl rfl ?_
    obtain ⟨hs23, hL⟩ := cC_un hL
    refine ev_get (pc := 51) (c9 := 10) (k9 := 11) dX10_readCounty_51 fl_Md_128 (by decide) hs23 gv10_11 ?_
    refine ev_iconst (pc := 54) dX10_readCounty_54 ?_
    refine ev_icmp_ne (pc := 55) (tgt := 102) dX10_readCounty_55 rfl hL rfl (fun hL => ?_) (fun hL => ?_)
    · refine ev_aload_n (pc := 58) (i := 0) dX10_readCounty_58 rfl rfl ?_
      obtain ⟨r24, h25, hc26, hL⟩ := cl_un hL
      refine evB_callV_V (pc := 59) (M_Md_readClause hc26) dX10_readCounty_59 mt_Md_readClause st_Md_readClause ml_Md_261 hs23 (by decide) ⟨_, rfl, rfl⟩ (Nat.le_of_ble_eq_true rfl) rfl rfl (Nat.le_trans sm_z (by decide)) ?_
      refine ev_aload_n (pc := 62) (i := 0) dX10_readCounty_62 rfl rfl ?_
      refine ev_get (pc := 63) (c9 := 10) (k9 := 11) dX10_readCounty_63 fl_Md_128 (by decide) hs23 gv10_11 ?_
      refine ev_iconst (pc := 66) dX10_readCounty_66 ?_
      refine ev_icmp_ne (pc := 67) (tgt := 83) dX10_readCounty_67 rfl hL rfl (fun hL => ?_) (fun hL => ?_)
      · refine ev_aload_n (pc := 70) (i := 0) dX10_readCounty_70 rfl rfl ?_
        obtain ⟨r27, h28, hc29, hL⟩ := cl_un hL
        refine evB_callV_I (pc := 71) (M_Md_look hc29) dX10_readCounty_71 mt_Md_look st_Md_look ml_Md_138 hs23 (by decide) ⟨_, rfl, rfl⟩ (Nat.le_of_ble_eq_true rfl) rfl rfl (Nat.le_trans sm_z (by decide)) ?_
        refine ev_bipush (pc := 74) dX10_readCounty_74 (by decide) ?_
        refine ev_icmp_ne (pc := 76) (tgt := 83) dX10_readCounty_76 rfl hL rfl (fun hL => ?_) (fun hL => ?_)
        · refine ev_iconst (pc := 79) dX10_readCounty_79 ?_
          refine ev_goto (pc := 80) (tgt := 84) dX10_readCounty_80 rfl ?_
          exact ev_le (lvle_s (lvle_n lvle_z)) (KMd_readCounty_b84 hk46 hL)
        · refine ev_iconst (pc := 83) dX10_readCounty_83 ?_
          exact ev_le (lvle_s (lvle_n lvle_z)) (KMd_readCounty_b84 hk46 hL)
      · refine ev_iconst (pc := 83) dX10_readCounty_83 ?_
        exact ev_le (lvle_s (lvle_n lvle_z)) (KMd_readCounty_b84 hk46 hL)
    · exact ev_le (lvle_s (lvle_n lvle_z)) (KMd_readCounty_b102  hL)
set_option maxHeartbeats 1000000 in
set_option maxRecDepth 100000 in
theorem KMd_readCounty_b46 {ω : Wd} {z : Nat → Prop}  {h h' : Hp} {x0 x1 r : Int}  (hL : Md_readCounty_b46 h x0 x1 = some (r, h')) : EvB ω N_Md_readCounty 8 (QB none z h') z h 46 [some (aV ω x0), some (iV x1)] [] := by
  unfold Md_readCounty_b46 at hL
  refine itr_link (P := fun (s : Hp × Int × Int) (o : Int × Hp) => EvB ω N_Md_readCounty 8 (QB none z o.2) z s.1 46 [some (aV ω s.2.1), some (iV s.2.2)] []) ?_ _ _ _ hL
  intro k hk s o h9
  have h10 := KMd_readCounty_b46_body (ω := ω) (z := z) (k46 := k) (h := s.1) (x0 := s.2.1) (x1 := s.2.2) (r := o.1) (h' := o.2) 
  exact h10 hk h9
set_option maxHeartbeats 1000000 in
set_option maxRecDepth 100000 in
theorem M_Md_readCounty {ω : Wd} {z : Nat → Prop} {h h' : Hp} {a0 r : Int}  (hL : Md_readCounty h a0 = some (r, h')) : CtB ω N_Md_readCounty 8 [aV ω a0] z h none h' := by
  unfold Md_readCounty at hL
  refine Ct_of (lv := [some (aV ω a0), none]) (by decide) (Nat.le_trans (sl_1 (cat_aV _ _) sl_z) (Nat.le_of_ble_eq_true rfl)) (la_1 (cat_aV _ _) (la_n la_z)) ?_
  refine ev_aload_n (pc := 0) (i := 0) dX10_readCounty_0 rfl rfl ?_
  refine ev_aload_n (pc := 1) (i := 0) dX10_readCounty_1 rfl rfl ?_
  obtain ⟨hs1, hL⟩ := cC_un hL
  refine ev_get (pc := 2) (c9 := 10) (k9 := 1) dX10_readCounty_2 fl_Md_9 (by decide) hs1 (gv10_1 hs1) ?_
  refine ev_iconst (pc := 5) dX10_readCounty_5 ?_
  refine ev_aload_n (pc := 6) (i := 0) dX10_readCounty_6 rfl rfl ?_
  refine ev_get (pc := 7) (c9 := 10) (k9 := 6) dX10_readCounty_7 fl_Md_109 (by decide) hs1 gv10_6 ?_
  obtain ⟨r2, h3, hc4, hL⟩ := cl_un hL
  refine evB_callV_V (pc := 10) (M_Md_starts hc4) dX10_readCounty_10 mt_Md_starts st_Md_starts ml_Md_207 hs1 (by decide) ⟨_, rfl, rfl⟩ (Nat.le_of_ble_eq_true rfl) rfl rfl (Nat.le_trans sm_z (by decide)) ?_
  refine ev_aload_n (pc := 13) (i := 0) dX10_readCounty_13 rfl rfl ?_
  refine ev_iconst (pc := 14) dX10_readCounty_14 ?_
  refine evB_putI (pc := 15) (c9 := 10) (k9 := 28) (kI := 28) dX10_readCounty_15 fl_Md_245 hs1 (by decide) (fun q hq => by cases hq; rfl) rfl rfl rfl ?_
  refine ev_puG hL (fun h5 hL => ?_)
  refine ev_aload_n (pc := 18) (i := 0) dX10_readCounty_18 rfl rfl ?_
  refine ev_iconst (pc := 19) dX10_readCounty_19 ?_
  refine evB_putI (pc := 20) (c9 := 10) (k9 := 29) (kI := 29) dX10_readCounty_20 fl_Md_248 hs1 (by decide) (fun q hq => by cases hq; rfl) rfl rfl rfl ?_
  refine ev_puG hL (fun h6 hL => ?_)
  refine ev_aload_n (pc := 23) (i := 0) dX10_readCounty_23 rfl rfl ?_
  refine ev_iconst (pc := 24) dX10_readCounty_24 ?_
  refine evB_putZ (pc := 25) (c9 := 10) (k9 := 31) (kI := 31) dX10_readCounty_25 fl_Md_242 hs1 (by decide) (fun q hq => by cases hq; rfl) rfl rfl (by decide) rfl ?_
  refine ev_puG hL (fun h7 hL => ?_)
  refine ev_aload_n (pc := 28) (i := 0) dX10_readCounty_28 rfl rfl ?_
  refine ev_get (pc := 29) (c9 := 10) (k9 := 19) dX10_readCounty_29 fl_Md_40 (by decide) hs1 (gv10_19 hs1) ?_
  refine ev_iconst (pc := 32) dX10_readCounty_32 ?_
  refine ev_bipush (pc := 33) dX10_readCounty_33 (by decide) ?_
  obtain ⟨q8a, q8d, q8b, q8c, hL⟩ := cY_un hL
  refine ev_iast (pc := 35) dX10_readCounty_35 q8a q8d q8b q8c ?_
  refine ev_puG hL (fun h9 hL => ?_)
  refine ev_aload_n (pc := 36) (i := 0) dX10_readCounty_36 rfl rfl ?_
  refine ev_get (pc := 37) (c9 := 10) (k9 := 19) dX10_readCounty_37 fl_Md_40 (by decide) hs1 (gv10_19 hs1) ?_
  refine ev_iconst (pc := 40) dX10_readCounty_40 ?_
  refine ev_bipush (pc := 41) dX10_readCounty_41 (by decide) ?_
  obtain ⟨q10a, q10d, q10b, q10c, hL⟩ := cY_un hL
  refine ev_iast (pc := 43) dX10_readCounty_43 q10a q10d q10b q10c ?_
  refine ev_puG hL (fun h11 hL => ?_)
  refine ev_iconst (pc := 44) dX10_readCounty_44 ?_
  refine ev_istore_n (pc := 45) (i := 1) dX10_readCounty_45 rfl (lnl_v (cat_aV _ _) rfl) (Nat.le_of_ble_eq_true rfl) ?_
  exact ev_le (lvle_s (lvle_s lvle_z)) (KMd_readCounty_b46  hL)
set_option maxHeartbeats 1000000 in
set_option maxRecDepth 100000 in
theorem M_Md_readStep {ω : Wd} {z : Nat → Prop} {h h' : Hp} {a0 a1 r : Int}  (hL : Md_readStep h a0 a1 = some (r, h')) : CtB ω N_Md_readStep 6 [aV ω a0, iV a1] z h none h' := by
  unfold Md_readStep at hL
  refine Ct_of (lv := [some (aV ω a0), some (iV a1), none]) (by decide) (Nat.le_trans (sl_1 (cat_aV _ _) (sl_1 (cat_iV _) sl_z)) (Nat.le_of_ble_eq_true rfl)) (la_1 (cat_aV _ _) (la_1 (cat_iV _) (la_n la_z))) ?_
  refine ev_ldcwS (pc := 0) (n := 6) (by decide) rfl rfl dX10_readStep_0 ?_
  refine ev_aload_n (pc := 3) (i := 0) dX10_readStep_3 rfl rfl ?_
  obtain ⟨hs1, hL⟩ := cC_un hL
  obtain ⟨r2, h3, hc4, hL⟩ := cl_un hL
  refine evB_callV_I (pc := 4) (M_Md_look hc4) dX10_readStep_4 mt_Md_look st_Md_look ml_Md_138 hs1 (by decide) ⟨_, rfl, rfl⟩ (Nat.le_of_ble_eq_true rfl) rfl rfl (Nat.le_trans (sm_1 (cat_aV _ _) sm_z) (by decide)) ?_
  obtain ⟨r5, h6, hc7, hL⟩ := cl_un hL
  refine evB_callS_I (pc := 7) (M_Md_spotOf hc7) dX10_readStep_7 mt_Md_spotOf st_Md_spotOf ml_Md_225 (Nat.le_of_ble_eq_true rfl) rfl rfl (Nat.le_trans sm_z (by decide)) ?_
  refine ev_istore_n (pc := 10) (i := 2) dX10_readStep_10 rfl (lnl_v rfl rfl) (Nat.le_of_ble_eq_true rfl) ?_
  refine ev_iload_n (pc := 11) (i := 2) dX10_readStep_11 rfl rfl ?_
  refine ev_iconst (pc := 12) dX10_readStep_12 ?_
  refine ev_icmp_ne (pc := 13) (tgt := 22) dX10_readStep_13 rfl hL rfl (fun hL => ?_) (fun hL => ?_)
  · refine ev_aload_n (pc := 16) (i := 0) dX10_readStep_16 rfl rfl ?_
    obtain ⟨r8, h9, hc10, hL⟩ := cl_un hL
    refine evB_callV_I (pc := 17) (M_Md_fails hc10) dX10_readStep_17 mt_Md_fails st_Md_fails ml_Md_134 hs1 (by decide) ⟨_, rfl, rfl⟩ (Nat.le_of_ble_eq_true rfl) rfl rfl (Nat.le_trans sm_z (by decide)) ?_
    refine ev_pop (pc := 20) dX10_readStep_20 rfl ?_
    exact evB_vret (pc := 21) dX10_readStep_21 rfl hL
  · refine ev_aload_n (pc := 22) (i := 0) dX10_readStep_22 rfl rfl ?_
    refine ev_dup (pc := 23) dX10_readStep_23 (cat_aV _ _) ?_
    refine ev_get (pc := 24) (c9 := 10) (k9 := 10) dX10_readStep_24 fl_Md_119 (by decide) hs1 gv10_10 ?_
    refine ev_iconst (pc := 27) dX10_readStep_27 ?_
    refine ev_iadd (pc := 28) dX10_readStep_28 ?_
    refine evB_putI (pc := 29) (c9 := 10) (k9 := 10) (kI := 10) dX10_readStep_29 fl_Md_119 hs1 (by decide) (fun q hq => by cases hq; rfl) rfl rfl rfl ?_
    refine ev_puG hL (fun h11 hL => ?_)
    refine ev_aload_n (pc := 32) (i := 0) dX10_readStep_32 rfl rfl ?_
    refine ev_get (pc := 33) (c9 := 10) (k9 := 24) dX10_readStep_33 fl_Md_55 (by decide) hs1 (gv10_24 hs1) ?_
    refine ev_iload_n (pc := 36) (i := 1) dX10_readStep_36 rfl rfl ?_
    refine ev_iload_n (pc := 37) (i := 2) dX10_readStep_37 rfl rfl ?_
    obtain ⟨q12a, q12d, q12b, q12c, hL⟩ := cY_un hL
    refine ev_iast (pc := 38) dX10_readStep_38 q12a q12d q12b q12c ?_
    refine ev_puG hL (fun h13 hL => ?_)
    refine ev_aload_n (pc := 39) (i := 0) dX10_readStep_39 rfl rfl ?_
    refine ev_get (pc := 40) (c9 := 10) (k9 := 24) dX10_readStep_40 fl_Md_55 (by decide) hs1 (gv10_24 hs1) ?_
    refine ev_iload_n (pc := 43) (i := 1) dX10_readStep_43 rfl rfl ?_
    refine ev_iconst (pc := 44) dX10_readStep_44 ?_
    refine ev_iadd (pc := 45) dX10_readStep_45 ?_
    refine ev_iconst (pc := 46) dX10_readStep_46 ?_
    obtain ⟨q14a, q14d, q14b, q14c, hL⟩ := cY_un hL
    refine ev_iast (pc := 47) dX10_readStep_47 q14a q14d q14b q14c ?_
    refine ev_puG hL (fun h15 hL => ?_)
    refine ev_aload_n (pc := 48) (i := 0) dX10_readStep_48 rfl rfl ?_
    refine ev_get (pc := 49) (c9 := 10) (k9 := 24) dX10_readStep_49 fl_Md_55 (by decide) hs1 (gv10_24 hs1) ?_
    refine ev_iload_n (pc := 52) (i := 1) dX10_readStep_52 rfl rfl ?_
    refine ev_iconst (pc := 53) dX10_readStep_53 ?_
    refine ev_iadd (pc := 54) dX10_readStep_54 ?_
    refine ev_iconst (pc := 55) dX10_readStep_55 ?_
    obtain ⟨q16a, q16d, q16b, q16c, hL⟩ := cY_un hL
    refine ev_iast (pc := 56) dX10_readStep_56 q16a q16d q16b q16c ?_
    refine ev_puG hL (fun h17 hL => ?_)
    refine ev_iload_n (pc := 57) (i := 2) dX10_readStep_57 rfl rfl ?_
    refine ev_iconst (pc := 58) dX10_readStep_58 ?_
    refine ev_icmp_ne (pc := 59) (tgt := 63) dX10_readStep_59 rfl hL rfl (fun hL => ?_) (fun hL => ?_)
    · exact evB_vret (pc := 62) dX10_readStep_62 rfl hL
    · refine ev_aload_n (pc := 63) (i := 0) dX10_readStep_63 rfl rfl ?_
      refine ev_get (pc := 64) (c9 := 10) (k9 := 24) dX10_readStep_64 fl_Md_55 (by decide) hs1 (gv10_24 hs1) ?_
      refine ev_iload_n (pc := 67) (i := 1) dX10_readStep_67 rfl rfl ?_
      refine ev_iconst (pc := 68) dX10_readStep_68 ?_
      refine ev_iadd (pc := 69) dX10_readStep_69 ?_
      refine ev_aload_n (pc := 70) (i := 0) dX10_readStep_70 rfl rfl ?_
      obtain ⟨r18, h19, hc20, hL⟩ := cl_un hL
      refine evB_callV_I (pc := 71) (M_Md_digit hc20) dX10_readStep_71 mt_Md_digit st_Md_digit ml_Md_269 hs1 (by decide) ⟨_, rfl, rfl⟩ (Nat.le_of_ble_eq_true rfl) rfl rfl (Nat.le_trans (sm_1 (cat_iV _) (sm_1 (cat_aV _ _) sm_z)) (by decide)) ?_
      obtain ⟨q21a, q21d, q21b, q21c, hL⟩ := cY_un hL
      refine ev_iast (pc := 74) dX10_readStep_74 q21a q21d q21b q21c ?_
      refine ev_puG hL (fun h22 hL => ?_)
      refine ev_aload_n (pc := 75) (i := 0) dX10_readStep_75 rfl rfl ?_
      refine ev_get (pc := 76) (c9 := 10) (k9 := 11) dX10_readStep_76 fl_Md_128 (by decide) hs1 gv10_11 ?_
      refine ev_iconst (pc := 79) dX10_readStep_79 ?_
      refine ev_icmp_ne (pc := 80) (tgt := 100) dX10_readStep_80 rfl hL rfl (fun hL => ?_) (fun hL => ?_)
      · refine ev_iload_n (pc := 83) (i := 2) dX10_readStep_83 rfl rfl ?_
        refine ev_iconst (pc := 84) dX10_readStep_84 ?_
        refine ev_icmp_le (pc := 85) (tgt := 100) dX10_readStep_85 rfl hL rfl (fun hL => ?_) (fun hL => ?_)
        · refine ev_aload_n (pc := 88) (i := 0) dX10_readStep_88 rfl rfl ?_
          refine ev_get (pc := 89) (c9 := 10) (k9 := 24) dX10_readStep_89 fl_Md_55 (by decide) hs1 (gv10_24 hs1) ?_
          refine ev_iload_n (pc := 92) (i := 1) dX10_readStep_92 rfl rfl ?_
          refine ev_iconst (pc := 93) dX10_readStep_93 ?_
          refine ev_iadd (pc := 94) dX10_readStep_94 ?_
          refine ev_aload_n (pc := 95) (i := 0) dX10_readStep_95 rfl rfl ?_
          obtain ⟨r23, h24, hc25, hL⟩ := cl_un hL
          refine evB_callV_I (pc := 96) (M_Md_digit hc25) dX10_readStep_96 mt_Md_digit st_Md_digit ml_Md_269 hs1 (by decide) ⟨_, rfl, rfl⟩ (Nat.le_of_ble_eq_true rfl) rfl rfl (Nat.le_trans (sm_1 (cat_iV _) (sm_1 (cat_aV _ _) sm_z)) (by decide)) ?_
          obtain ⟨q26a, q26d, q26b, q26c, hL⟩ := cY_un hL
          refine ev_iast (pc := 99) dX10_readStep_99 q26a q26d q26b q26c ?_
          refine ev_puG hL (fun h27 hL => ?_)
          exact evB_vret (pc := 100) dX10_readStep_100 rfl hL
        · exact evB_vret (pc := 100) dX10_readStep_100 rfl hL
      · exact evB_vret (pc := 100) dX10_readStep_100 rfl hL
set_option maxHeartbeats 1000000 in
set_option maxRecDepth 100000 in
theorem KMd_readPlan_b74 {ω : Wd} {z : Nat → Prop} {k17 : Hp × Int × Int × Int → Option (Int × Hp)} {h h' : Hp} {x0 x1 x2 r : Int} (hk17 : ∀ s o, k17 s = some o → EvB ω N_Md_readPlan 7 (QB none z o.2) z s.1 17 [some (aV ω s.2.1), some (iV s.2.2.1), some (iV s.2.2.2)] []) (hL : Md_readPlan_b74 k17 h x0 x1 x2 = some (r, h')) : EvB ω N_Md_readPlan 7 (QB none z h') z h 74 [some (aV ω x0), some (iV x1), some (iV x2)] [] := by
  unfold Md_readPlan_b74 at hL
  refine ev_iload_n (pc := 74) (i := 2) dX10_readPlan_74 rfl rfl ?_
  refine ev_if_eq (pc := 75) (tgt := 17) dX10_readPlan_75 rfl hL rfl (fun hL => ?_) (fun hL => ?_)
  · exact ev_le (lvle_s (lvle_s (lvle_s lvle_z))) (hk17 _ _ hL)
  · refine ev_aload_n (pc := 78) (i := 0) dX10_readPlan_78 rfl rfl ?_
    refine ev_dup (pc := 79) dX10_readPlan_79 (cat_aV _ _) ?_
    obtain ⟨hs21, hL⟩ := cC_un hL
    refine ev_get (pc := 80) (c9 := 10) (k9 := 10) dX10_readPlan_80 fl_Md_119 (by decide) hs21 gv10_10 ?_
    refine ev_iconst (pc := 83) dX10_readPlan_83 ?_
    refine ev_iadd (pc := 84) dX10_readPlan_84 ?_
    refine evB_putI (pc := 85) (c9 := 10) (k9 := 10) (kI := 10) dX10_readPlan_85 fl_Md_119 hs21 (by decide) (fun q hq => by cases hq; rfl) rfl rfl rfl ?_
    refine ev_puG hL (fun h22 hL => ?_)
    refine ev_goto (pc := 88) (tgt := 17) dX10_readPlan_88 rfl ?_
    exact ev_le (lvle_s (lvle_s (lvle_s lvle_z))) (hk17 _ _ hL)
set_option maxHeartbeats 1000000 in
set_option maxRecDepth 100000 in
theorem KMd_readPlan_b57 {ω : Wd} {z : Nat → Prop} {k17 : Hp × Int × Int × Int → Option (Int × Hp)} {h h' : Hp} {x0 x1 y0 r : Int} (hk17 : ∀ s o, k17 s = some o → EvB ω N_Md_readPlan 7 (QB none z o.2) z s.1 17 [some (aV ω s.2.1), some (iV s.2.2.1), some (iV s.2.2.2)] []) (hL : Md_readPlan_b57 k17 h x0 x1 y0 = some (r, h')) : EvB ω N_Md_readPlan 7 (QB none z h') z h 57 [some (aV ω x0), some (iV x1), none] [iV y0] := by
  unfold Md_readPlan_b57 at hL
  refine ev_istore_n (pc := 57) (i := 2) dX10_readPlan_57 rfl (lnl_v rfl rfl) (Nat.le_of_ble_eq_true rfl) ?_
  refine ev_iload_n (pc := 58) (i := 2) dX10_readPlan_58 rfl rfl ?_
  refine ev_if_eq (pc := 59) (tgt := 74) dX10_readPlan_59 rfl hL rfl (fun hL => ?_) (fun hL => ?_)
  · exact ev_le (lvle_s (lvle_s (lvle_s lvle_z))) (KMd_readPlan_b74 hk17 hL)
  · refine ev_iload_n (pc := 62) (i := 1) dX10_readPlan_62 rfl rfl ?_
    refine ev_bipush (pc := 63) dX10_readPlan_63 (by decide) ?_
    refine ev_icmp_ne (pc := 65) (tgt := 74) dX10_readPlan_65 rfl hL rfl (fun hL => ?_) (fun hL => ?_)
    · refine ev_aload_n (pc := 68) (i := 0) dX10_readPlan_68 rfl rfl ?_
      obtain ⟨hs23, hL⟩ := cC_un hL
      obtain ⟨r24, h25, hc26, hL⟩ := cl_un hL
      refine evB_callV_I (pc := 69) (M_Md_fails hc26) dX10_readPlan_69 mt_Md_fails st_Md_fails ml_Md_134 hs23 (by decide) ⟨_, rfl, rfl⟩ (Nat.le_of_ble_eq_true rfl) rfl rfl (Nat.le_trans sm_z (by decide)) ?_
      refine ev_pop (pc := 72) dX10_readPlan_72 rfl ?_
      exact evB_vret (pc := 73) dX10_readPlan_73 rfl hL
    · exact ev_le (lvle_s (lvle_s (lvle_s lvle_z))) (KMd_readPlan_b74 hk17 hL)
set_option maxHeartbeats 1000000 in
set_option maxRecDepth 100000 in
theorem KMd_readPlan_b17_body {ω : Wd} {z : Nat → Prop}  {k17 : Hp × Int × Int × Int → Option (Int × Hp)} {h h' : Hp} {x0 x1 x2 r : Int}  (hk17 : ∀ s o, k17 s = some o → EvB ω N_Md_readPlan 7 (QB none z o.2) z s.1 17 [some (aV ω s.2.1), some (iV s.2.2.1), some (iV s.2.2.2)] []) (hL : Md_readPlan_b17_body  k17 h x0 x1 x2 = some (r, h')) : EvB ω N_Md_readPlan 7 (QB none z h') z h 17 [some (aV ω x0), some (iV x1), some (iV x2)] [] := by
  unfold Md_readPlan_b17_body at hL
  refine ev_iload_n (pc := 17) (i := 2) dX10_readPlan_17 rfl rfl ?_
  refine ev_if_eq (pc := 18) (tgt := 91) dX10_readPlan_18 rfl hL rfl (fun hL => ?_) (fun hL => ?_)
  · refine ev_aload_n (pc := 91) (i := 0) dX10_readPlan_91 rfl rfl ?_
    obtain ⟨hs5, hL⟩ := cC_un hL
    refine ev_get (pc := 92) (c9 := 10) (k9 := 25) dX10_readPlan_92 fl_Md_58 (by decide) hs5 (gv10_25 hs5) ?_
    refine ev_iconst (pc := 95) dX10_readPlan_95 ?_
    refine ev_iload_n (pc := 96) (i := 1) dX10_readPlan_96 rfl rfl ?_
    obtain ⟨q6a, q6d, q6b, q6c, hL⟩ := cY_un hL
    refine ev_iast (pc := 97) dX10_readPlan_97 q6a q6d q6b q6c ?_
    refine ev_puG hL (fun h7 hL => ?_)
    refine ev_aload_n (pc := 98) (i := 0) dX10_readPlan_98 rfl rfl ?_
    obtain ⟨r8, h9, hc10, hL⟩ := cl_un hL
    refine evB_callV_I (pc := 99) (M_Md_look hc10) dX10_readPlan_99 mt_Md_look st_Md_look ml_Md_138 hs5 (by decide) ⟨_, rfl, rfl⟩ (Nat.le_of_ble_eq_true rfl) rfl rfl (Nat.le_trans sm_z (by decide)) ?_
    refine ev_iconst (pc := 102) dX10_readPlan_102 ?_
    refine ev_icmp_eq (pc := 103) (tgt := 111) dX10_readPlan_103 rfl hL rfl (fun hL => ?_) (fun hL => ?_)
    · exact evB_vret (pc := 111) dX10_readPlan_111 rfl hL
    · refine ev_aload_n (pc := 106) (i := 0) dX10_readPlan_106 rfl rfl ?_
      obtain ⟨r11, h12, hc13, hL⟩ := cl_un hL
      refine evB_callV_I (pc := 107) (M_Md_fails hc13) dX10_readPlan_107 mt_Md_fails st_Md_fails ml_Md_134 hs5 (by decide) ⟨_, rfl, rfl⟩ (Nat.le_of_ble_eq_true rfl) rfl rfl (Nat.le_trans sm_z (by decide)) ?_
      refine ev_pop (pc := 110) dX10_readPlan_110 rfl ?_
      exact evB_vret (pc := 111) dX10_readPlan_111 rfl hL
  · refine ev_aload_n (pc := 21) (i := 0) dX10_readPlan_21 rfl rfl ?_
    refine ev_iconst (pc := 22) dX10_readPlan_22 ?_
    refine ev_bipush (pc := 23) dX10_readPlan_23 (by decide) ?_
    refine ev_iload_n (pc := 25) (i := 1) dX10_readPlan_25 rfl rfl ?_
    refine ev_iadd (pc := 26) dX10_readPlan_26 ?_
    refine ev_imul (pc := 27) dX10_readPlan_27 ?_
    obtain ⟨hs14, hL⟩ := cC_un hL
    obtain ⟨r15, h16, hc17, hL⟩ := cl_un hL
    refine evB_callV_V (pc := 28) (M_Md_readStep hc17) dX10_readPlan_28 mt_Md_readStep st_Md_readStep ml_Md_272 hs14 (by decide) ⟨_, rfl, rfl⟩ (Nat.le_of_ble_eq_true rfl) rfl rfl (Nat.le_trans sm_z (by decide)) ?_
    refine ev_aload_n (pc := 31) (i := 0) dX10_readPlan_31 rfl rfl ?_
    refine ev_get (pc := 32) (c9 := 10) (k9 := 11) dX10_readPlan_32 fl_Md_128 (by decide) hs14 gv10_11 ?_
    refine ev_iconst (pc := 35) dX10_readPlan_35 ?_
    refine ev_icmp_eq (pc := 36) (tgt := 40) dX10_readPlan_36 rfl hL rfl (fun hL => ?_) (fun hL => ?_)
    · refine ev_iinc (pc := 40) dX10_readPlan_40 rfl (lnl_v (cat_aV _ _) rfl) (Nat.le_of_ble_eq_true rfl) ?_
      refine ev_aload_n (pc := 43) (i := 0) dX10_readPlan_43 rfl rfl ?_
      obtain ⟨r18, h19, hc20, hL⟩ := cl_un hL
      refine evB_callV_I (pc := 44) (M_Md_look hc20) dX10_readPlan_44 mt_Md_look st_Md_look ml_Md_138 hs14 (by decide) ⟨_, rfl, rfl⟩ (Nat.le_of_ble_eq_true rfl) rfl rfl (Nat.le_trans sm_z (by decide)) ?_
      refine ev_bipush (pc := 47) dX10_readPlan_47 (by decide) ?_
      refine ev_icmp_ne (pc := 49) (tgt := 56) dX10_readPlan_49 rfl hL rfl (fun hL => ?_) (fun hL => ?_)
      · refine ev_iconst (pc := 52) dX10_readPlan_52 ?_
        refine ev_goto (pc := 53) (tgt := 57) dX10_readPlan_53 rfl ?_
        exact ev_le (lvle_s (lvle_s (lvle_n lvle_z))) (KMd_readPlan_b57 hk17 hL)
      · refine ev_iconst (pc := 56) dX10_readPlan_56 ?_
        exact ev_le (lvle_s (lvle_s (lvle_n lvle_z))) (KMd_readPlan_b57 hk17 hL)
    · exact evB_vret (pc := 39) dX10_readPlan_39 rfl hL
set_option maxHeartbeats 1000000 in
set_option maxRecDepth 100000 in
theorem KMd_readPlan_b17 {ω : Wd} {z : Nat → Prop}  {h h' : Hp} {x0 x1 x2 r : Int}  (hL : Md_readPlan_b17 h x0 x1 x2 = some (r, h')) : EvB ω N_Md_readPlan 7 (QB none z h') z h 17 [some (aV ω x0), some (iV x1), some (iV x2)] [] := by
  unfold Md_readPlan_b17 at hL
  refine itr_link (P := fun (s : Hp × Int × Int × Int) (o : Int × Hp) => EvB ω N_Md_readPlan 7 (QB none z o.2) z s.1 17 [some (aV ω s.2.1), some (iV s.2.2.1), some (iV s.2.2.2)] []) ?_ _ _ _ hL
  intro k hk s o h9
  have h10 := KMd_readPlan_b17_body (ω := ω) (z := z) (k17 := k) (h := s.1) (x0 := s.2.1) (x1 := s.2.2.1) (x2 := s.2.2.2) (r := o.1) (h' := o.2) 
  exact h10 hk h9
set_option maxHeartbeats 1000000 in
set_option maxRecDepth 100000 in
theorem M_Md_readPlan {ω : Wd} {z : Nat → Prop} {h h' : Hp} {a0 r : Int}  (hL : Md_readPlan h a0 = some (r, h')) : CtB ω N_Md_readPlan 7 [aV ω a0] z h none h' := by
  unfold Md_readPlan at hL
  refine Ct_of (lv := [some (aV ω a0), none, none]) (by decide) (Nat.le_trans (sl_1 (cat_aV _ _) sl_z) (Nat.le_of_ble_eq_true rfl)) (la_1 (cat_aV _ _) (la_n (la_n la_z))) ?_
  refine ev_aload_n (pc := 0) (i := 0) dX10_readPlan_0 rfl rfl ?_
  refine ev_aload_n (pc := 1) (i := 0) dX10_readPlan_1 rfl rfl ?_
  obtain ⟨hs1, hL⟩ := cC_un hL
  refine ev_get (pc := 2) (c9 := 10) (k9 := 1) dX10_readPlan_2 fl_Md_9 (by decide) hs1 (gv10_1 hs1) ?_
  refine ev_iconst (pc := 5) dX10_readPlan_5 ?_
  refine ev_aload_n (pc := 6) (i := 0) dX10_readPlan_6 rfl rfl ?_
  refine ev_get (pc := 7) (c9 := 10) (k9 := 6) dX10_readPlan_7 fl_Md_109 (by decide) hs1 gv10_6 ?_
  obtain ⟨r2, h3, hc4, hL⟩ := cl_un hL
  refine evB_callV_V (pc := 10) (M_Md_starts hc4) dX10_readPlan_10 mt_Md_starts st_Md_starts ml_Md_207 hs1 (by decide) ⟨_, rfl, rfl⟩ (Nat.le_of_ble_eq_true rfl) rfl rfl (Nat.le_trans sm_z (by decide)) ?_
  refine ev_iconst (pc := 13) dX10_readPlan_13 ?_
  refine ev_istore_n (pc := 14) (i := 1) dX10_readPlan_14 rfl (lnl_v (cat_aV _ _) rfl) (Nat.le_of_ble_eq_true rfl) ?_
  refine ev_iconst (pc := 15) dX10_readPlan_15 ?_
  refine ev_istore_n (pc := 16) (i := 2) dX10_readPlan_16 rfl (lnl_v rfl rfl) (Nat.le_of_ble_eq_true rfl) ?_
  exact ev_le (lvle_s (lvle_s (lvle_s lvle_z))) (KMd_readPlan_b17  hL)
set_option maxHeartbeats 1000000 in
set_option maxRecDepth 100000 in
theorem KMd_fault_b55 {ω : Wd} {z : Nat → Prop}  {h h' : Hp} {x0 r : Int}  (hL : Md_fault_b55 h x0 = some (r, h')) : EvB ω N_Md_fault 1302 (QB (some (iV r)) z h') z h 55 [some (aV ω x0), none] [] := by
  unfold Md_fault_b55 at hL
  refine ev_aload_n (pc := 55) (i := 0) dX10_fault_55 rfl rfl ?_
  obtain ⟨hs17, hL⟩ := cC_un hL
  refine ev_get (pc := 56) (c9 := 10) (k9 := 11) dX10_fault_56 fl_Md_128 (by decide) hs17 gv10_11 ?_
  exact evB_iret (pc := 59) dX10_fault_59 rfl hL
set_option maxHeartbeats 1000000 in
set_option maxRecDepth 100000 in
theorem KMd_fault_b46 {ω : Wd} {z : Nat → Prop}  {h h' : Hp} {x0 x1 r : Int}  (hL : Md_fault_b46 h x0 x1 = some (r, h')) : EvB ω N_Md_fault 1302 (QB (some (iV r)) z h') z h 46 [some (aV ω x0), some (iV x1)] [] := by
  unfold Md_fault_b46 at hL
  refine ev_iload_n (pc := 46) (i := 1) dX10_fault_46 rfl rfl ?_
  refine ev_iconst (pc := 47) dX10_fault_47 ?_
  refine ev_icmp_ne (pc := 48) (tgt := 55) dX10_fault_48 rfl hL rfl (fun hL => ?_) (fun hL => ?_)
  · refine ev_aload_n (pc := 51) (i := 0) dX10_fault_51 rfl rfl ?_
    obtain ⟨hs13, hL⟩ := cC_un hL
    obtain ⟨r14, h15, hc16, hL⟩ := cl_un hL
    refine evB_callV_V (pc := 52) (M_Md_readPlan hc16) dX10_fault_52 mt_Md_readPlan st_Md_readPlan ml_Md_283 hs13 (by decide) ⟨_, rfl, rfl⟩ (Nat.le_of_ble_eq_true rfl) rfl rfl (Nat.le_trans sm_z (by decide)) ?_
    exact ev_le (lvle_s (lvle_n lvle_z)) (KMd_fault_b55  hL)
  · exact ev_le (lvle_s (lvle_n lvle_z)) (KMd_fault_b55  hL)
set_option maxHeartbeats 1000000 in
set_option maxRecDepth 100000 in
theorem KMd_fault_b28 {ω : Wd} {z : Nat → Prop}  {h h' : Hp} {x0 x1 r : Int}  (hL : Md_fault_b28 h x0 x1 = some (r, h')) : EvB ω N_Md_fault 1302 (QB (some (iV r)) z h') z h 28 [some (aV ω x0), some (iV x1)] [] := by
  unfold Md_fault_b28 at hL
  refine ev_iload_n (pc := 28) (i := 1) dX10_fault_28 rfl rfl ?_
  refine ev_iconst (pc := 29) dX10_fault_29 ?_
  refine ev_icmp_ne (pc := 30) (tgt := 46) dX10_fault_30 rfl hL rfl (fun hL => ?_) (fun hL => ?_)
  · refine ev_aload_n (pc := 33) (i := 0) dX10_fault_33 rfl rfl ?_
    refine ev_aload_n (pc := 34) (i := 0) dX10_fault_34 rfl rfl ?_
    obtain ⟨hs9, hL⟩ := cC_un hL
    refine ev_get (pc := 35) (c9 := 10) (k9 := 1) dX10_fault_35 fl_Md_9 (by decide) hs9 (gv10_1 hs9) ?_
    refine ev_iconst (pc := 38) dX10_fault_38 ?_
    refine ev_aload_n (pc := 39) (i := 0) dX10_fault_39 rfl rfl ?_
    refine ev_get (pc := 40) (c9 := 10) (k9 := 6) dX10_fault_40 fl_Md_109 (by decide) hs9 gv10_6 ?_
    obtain ⟨r10, h11, hc12, hL⟩ := cl_un hL
    refine evB_callV_V (pc := 43) (M_Md_goThrough hc12) dX10_fault_43 mt_Md_goThrough st_Md_goThrough ml_Md_280 hs9 (by decide) ⟨_, rfl, rfl⟩ (Nat.le_of_ble_eq_true rfl) rfl rfl (Nat.le_trans sm_z (by decide)) ?_
    exact ev_le (lvle_s (lvle_s lvle_z)) (KMd_fault_b46  hL)
  · exact ev_le (lvle_s (lvle_s lvle_z)) (KMd_fault_b46  hL)
set_option maxHeartbeats 1000000 in
set_option maxRecDepth 100000 in
theorem M_Md_fault {ω : Wd} {z : Nat → Prop} {h h' : Hp} {a0 a1 r : Int}  (hL : Md_fault h a0 a1 = some (r, h')) : CtB ω N_Md_fault 1302 [aV ω a0, iV a1] z h (some (iV r)) h' := by
  unfold Md_fault at hL
  refine Ct_of (lv := [some (aV ω a0), some (iV a1)]) (by decide) (Nat.le_trans (sl_1 (cat_aV _ _) (sl_1 (cat_iV _) sl_z)) (Nat.le_of_ble_eq_true rfl)) (la_1 (cat_aV _ _) (la_1 (cat_iV _) la_z)) ?_
  refine ev_aload_n (pc := 0) (i := 0) dX10_fault_0 rfl rfl ?_
  refine ev_iconst (pc := 1) dX10_fault_1 ?_
  obtain ⟨hs1, hL⟩ := cC_un hL
  refine evB_putI (pc := 2) (c9 := 10) (k9 := 0) (kI := 0) dX10_fault_2 fl_Md_96 hs1 (by decide) (fun q hq => by cases hq; rfl) rfl rfl rfl ?_
  refine ev_puG hL (fun h2 hL => ?_)
  refine ev_iload_n (pc := 5) (i := 1) dX10_fault_5 rfl rfl ?_
  refine ev_i2l (pc := 6) dX10_fault_6 ?_
  refine ev_lconst (pc := 7) (x := 0) dX10_fault_7 rfl ?_
  refine ev_ldc2 (pc := 8) (x := 2) dX10_fault_8 w_l_Md_275 ?_
  obtain ⟨r3, h4, hc5, hL⟩ := cl_un hL
  refine evB_callS_I (pc := 11) (M_Md_isIn hc5) dX10_fault_11 mt_Md_isIn st_Md_isIn ml_Md_217 (Nat.le_of_ble_eq_true rfl) rfl rfl (Nat.le_trans sm_z (by decide)) ?_
  refine ev_if_ne (pc := 14) (tgt := 20) dX10_fault_14 rfl hL rfl (fun hL => ?_) (fun hL => ?_)
  · refine ev_bipush (pc := 17) dX10_fault_17 (by decide) ?_
    exact evB_iret (pc := 19) dX10_fault_19 rfl hL
  · refine ev_iload_n (pc := 20) (i := 1) dX10_fault_20 rfl rfl ?_
    refine ev_if_ne (pc := 21) (tgt := 28) dX10_fault_21 rfl hL rfl (fun hL => ?_) (fun hL => ?_)
    · refine ev_aload_n (pc := 24) (i := 0) dX10_fault_24 rfl rfl ?_
      obtain ⟨r6, h7, hc8, hL⟩ := cl_un hL
      refine evB_callV_V (pc := 25) (M_Md_readCounty hc8) dX10_fault_25 mt_Md_readCounty st_Md_readCounty ml_Md_277 hs1 (by decide) ⟨_, rfl, rfl⟩ (Nat.le_of_ble_eq_true rfl) rfl rfl (Nat.le_trans sm_z (by decide)) ?_
      exact ev_le (lvle_s (lvle_s lvle_z)) (KMd_fault_b28  hL)
    · exact ev_le (lvle_s (lvle_s lvle_z)) (KMd_fault_b28  hL)
set_option maxHeartbeats 1000000 in
set_option maxRecDepth 100000 in
theorem KMd_put_b3_body {ω : Wd} {z : Nat → Prop}  {k3 : Hp × Int × Int × Int → Option (Int × Hp)} {h h' : Hp} {x0 x1 x2 r : Int}  (hk3 : ∀ s o, k3 s = some o → EvB ω N_Md_put 1 (QB none z o.2) z s.1 3 [some (aV ω s.2.1), some (iV s.2.2.1), some (iV s.2.2.2)] []) (hL : Md_put_b3_body  k3 h x0 x1 x2 = some (r, h')) : EvB ω N_Md_put 1 (QB none z h') z h 3 [some (aV ω x0), some (iV x1), some (iV x2)] [] := by
  unfold Md_put_b3_body at hL
  refine ev_iload_n (pc := 3) (i := 2) dX10_put_3 rfl rfl ?_
  refine ev_if_lt (pc := 4) (tgt := 49) dX10_put_4 rfl hL rfl (fun hL => ?_) (fun hL => ?_)
  · exact evB_vret (pc := 49) dX10_put_49 rfl hL
  · refine ev_iload_n (pc := 7) (i := 1) dX10_put_7 rfl rfl ?_
    refine ev_iload_n (pc := 8) (i := 2) dX10_put_8 rfl rfl ?_
    refine ev_ishr (pc := 9) dX10_put_9 ?_
    refine ev_sipush (pc := 10) dX10_put_10 (by decide) ?_
    refine ev_iand (pc := 13) dX10_put_13 ?_
    refine ev_if_ne (pc := 14) (tgt := 20) dX10_put_14 rfl hL rfl (fun hL => ?_) (fun hL => ?_)
    · refine ev_goto (pc := 17) (tgt := 43) dX10_put_17 rfl ?_
      refine ev_iinc (pc := 43) dX10_put_43 rfl (lnl_v rfl rfl) (Nat.le_of_ble_eq_true rfl) ?_
      refine ev_goto (pc := 46) (tgt := 3) dX10_put_46 rfl ?_
      exact ev_le (lvle_s (lvle_s (lvle_s lvle_z))) (hk3 _ _ hL)
    · refine ev_aload_n (pc := 20) (i := 0) dX10_put_20 rfl rfl ?_
      obtain ⟨hs1, hL⟩ := cC_un hL
      refine ev_get (pc := 21) (c9 := 10) (k9 := 1) dX10_put_21 fl_Md_9 (by decide) hs1 (gv10_1 hs1) ?_
      refine ev_aload_n (pc := 24) (i := 0) dX10_put_24 rfl rfl ?_
      refine ev_get (pc := 25) (c9 := 10) (k9 := 6) dX10_put_25 fl_Md_109 (by decide) hs1 gv10_6 ?_
      refine ev_iload_n (pc := 28) (i := 1) dX10_put_28 rfl rfl ?_
      refine ev_iload_n (pc := 29) (i := 2) dX10_put_29 rfl rfl ?_
      refine ev_ishr (pc := 30) dX10_put_30 ?_
      refine ev_i2b (pc := 31) dX10_put_31 ?_
      obtain ⟨q2a, q2d, q2b, q2c, hL⟩ := cY_un hL
      refine ev_bast (pc := 32) dX10_put_32 q2a q2d q2b q2c ?_
      refine ev_puG hL (fun h3 hL => ?_)
      refine ev_aload_n (pc := 33) (i := 0) dX10_put_33 rfl rfl ?_
      refine ev_dup (pc := 34) dX10_put_34 (cat_aV _ _) ?_
      refine ev_get (pc := 35) (c9 := 10) (k9 := 6) dX10_put_35 fl_Md_109 (by decide) hs1 gv10_6 ?_
      refine ev_iconst (pc := 38) dX10_put_38 ?_
      refine ev_iadd (pc := 39) dX10_put_39 ?_
      refine evB_putI (pc := 40) (c9 := 10) (k9 := 6) (kI := 6) dX10_put_40 fl_Md_109 hs1 (by decide) (fun q hq => by cases hq; rfl) rfl rfl rfl ?_
      refine ev_puG hL (fun h4 hL => ?_)
      refine ev_iinc (pc := 43) dX10_put_43 rfl (lnl_v rfl rfl) (Nat.le_of_ble_eq_true rfl) ?_
      refine ev_goto (pc := 46) (tgt := 3) dX10_put_46 rfl ?_
      exact ev_le (lvle_s (lvle_s (lvle_s lvle_z))) (hk3 _ _ hL)
set_option maxHeartbeats 1000000 in
set_option maxRecDepth 100000 in
theorem KMd_put_b3 {ω : Wd} {z : Nat → Prop}  {h h' : Hp} {x0 x1 x2 r : Int}  (hL : Md_put_b3 h x0 x1 x2 = some (r, h')) : EvB ω N_Md_put 1 (QB none z h') z h 3 [some (aV ω x0), some (iV x1), some (iV x2)] [] := by
  unfold Md_put_b3 at hL
  refine itr_link (P := fun (s : Hp × Int × Int × Int) (o : Int × Hp) => EvB ω N_Md_put 1 (QB none z o.2) z s.1 3 [some (aV ω s.2.1), some (iV s.2.2.1), some (iV s.2.2.2)] []) ?_ _ _ _ hL
  intro k hk s o h9
  have h10 := KMd_put_b3_body (ω := ω) (z := z) (k3 := k) (h := s.1) (x0 := s.2.1) (x1 := s.2.2.1) (x2 := s.2.2.2) (r := o.1) (h' := o.2) 
  exact h10 hk h9
set_option maxHeartbeats 1000000 in
set_option maxRecDepth 100000 in
theorem M_Md_put {ω : Wd} {z : Nat → Prop} {h h' : Hp} {a0 a1 r : Int}  (hL : Md_put h a0 a1 = some (r, h')) : CtB ω N_Md_put 1 [aV ω a0, iV a1] z h none h' := by
  unfold Md_put at hL
  refine Ct_of (lv := [some (aV ω a0), some (iV a1), none]) (by decide) (Nat.le_trans (sl_1 (cat_aV _ _) (sl_1 (cat_iV _) sl_z)) (Nat.le_of_ble_eq_true rfl)) (la_1 (cat_aV _ _) (la_1 (cat_iV _) (la_n la_z))) ?_
  refine ev_bipush (pc := 0) dX10_put_0 (by decide) ?_
  refine ev_istore_n (pc := 2) (i := 2) dX10_put_2 rfl (lnl_v rfl rfl) (Nat.le_of_ble_eq_true rfl) ?_
  exact ev_le (lvle_s (lvle_s (lvle_s lvle_z))) (KMd_put_b3  hL)
set_option maxHeartbeats 1000000 in
set_option maxRecDepth 100000 in
theorem M_Md_feed {ω : Wd} {z : Nat → Prop} {h h' : Hp} {a0 a1 a2 a3 a4 a5 r : Int}  (hL : Md_feed h a0 a1 a2 a3 a4 a5 = some (r, h')) : CtB ω N_Md_feed 2 [aV ω a0, iV a1, iV a2, iV a3, iV a4, iV a5] z h (some (iV r)) h' := by
  unfold Md_feed at hL
  refine Ct_of (lv := [some (aV ω a0), some (iV a1), some (iV a2), some (iV a3), some (iV a4), some (iV a5)]) (by decide) (Nat.le_trans (sl_1 (cat_aV _ _) (sl_1 (cat_iV _) (sl_1 (cat_iV _) (sl_1 (cat_iV _) (sl_1 (cat_iV _) (sl_1 (cat_iV _) sl_z)))))) (Nat.le_of_ble_eq_true rfl)) (la_1 (cat_aV _ _) (la_1 (cat_iV _) (la_1 (cat_iV _) (la_1 (cat_iV _) (la_1 (cat_iV _) (la_1 (cat_iV _) la_z)))))) ?_
  refine ev_aload_n (pc := 0) (i := 0) dX10_feed_0 rfl rfl ?_
  refine ev_iconst (pc := 1) dX10_feed_1 ?_
  obtain ⟨hs1, hL⟩ := cC_un hL
  refine evB_putI (pc := 2) (c9 := 10) (k9 := 0) (kI := 0) dX10_feed_2 fl_Md_96 hs1 (by decide) (fun q hq => by cases hq; rfl) rfl rfl rfl ?_
  refine ev_puG hL (fun h2 hL => ?_)
  refine ev_aload_n (pc := 5) (i := 0) dX10_feed_5 rfl rfl ?_
  refine ev_get (pc := 6) (c9 := 10) (k9 := 6) dX10_feed_6 fl_Md_109 (by decide) hs1 gv10_6 ?_
  refine ev_iload_n (pc := 9) (i := 1) dX10_feed_9 rfl rfl ?_
  obtain ⟨r3, h4, hc5, hL⟩ := cl_un hL
  refine evB_callS_I (pc := 10) (M_Md_bytesIn hc5) dX10_feed_10 mt_Md_bytesIn st_Md_bytesIn ml_Md_111 (Nat.le_of_ble_eq_true rfl) rfl rfl (Nat.le_trans (sm_1 (cat_iV _) sm_z) (by decide)) ?_
  refine ev_iadd (pc := 13) dX10_feed_13 ?_
  refine ev_iload_n (pc := 14) (i := 2) dX10_feed_14 rfl rfl ?_
  obtain ⟨r6, h7, hc8, hL⟩ := cl_un hL
  refine evB_callS_I (pc := 15) (M_Md_bytesIn hc8) dX10_feed_15 mt_Md_bytesIn st_Md_bytesIn ml_Md_111 (Nat.le_of_ble_eq_true rfl) rfl rfl (Nat.le_trans (sm_1 (cat_iV _) sm_z) (by decide)) ?_
  refine ev_iadd (pc := 18) dX10_feed_18 ?_
  refine ev_iload_n (pc := 19) (i := 3) dX10_feed_19 rfl rfl ?_
  obtain ⟨r9, h10, hc11, hL⟩ := cl_un hL
  refine evB_callS_I (pc := 20) (M_Md_bytesIn hc11) dX10_feed_20 mt_Md_bytesIn st_Md_bytesIn ml_Md_111 (Nat.le_of_ble_eq_true rfl) rfl rfl (Nat.le_trans (sm_1 (cat_iV _) sm_z) (by decide)) ?_
  refine ev_iadd (pc := 23) dX10_feed_23 ?_
  refine ev_iload (pc := 24) dX10_feed_24 rfl ?_
  obtain ⟨r12, h13, hc14, hL⟩ := cl_un hL
  refine evB_callS_I (pc := 26) (M_Md_bytesIn hc14) dX10_feed_26 mt_Md_bytesIn st_Md_bytesIn ml_Md_111 (Nat.le_of_ble_eq_true rfl) rfl rfl (Nat.le_trans (sm_1 (cat_iV _) sm_z) (by decide)) ?_
  refine ev_iadd (pc := 29) dX10_feed_29 ?_
  refine ev_iload (pc := 30) dX10_feed_30 rfl ?_
  obtain ⟨r15, h16, hc17, hL⟩ := cl_un hL
  refine evB_callS_I (pc := 32) (M_Md_bytesIn hc17) dX10_feed_32 mt_Md_bytesIn st_Md_bytesIn ml_Md_111 (Nat.le_of_ble_eq_true rfl) rfl rfl (Nat.le_trans (sm_1 (cat_iV _) sm_z) (by decide)) ?_
  refine ev_iadd (pc := 35) dX10_feed_35 ?_
  refine ev_sipush (pc := 36) dX10_feed_36 (by decide) ?_
  refine ev_icmp_le (pc := 39) (tgt := 44) dX10_feed_39 rfl hL rfl (fun hL => ?_) (fun hL => ?_)
  · refine ev_iconst (pc := 42) dX10_feed_42 ?_
    exact evB_iret (pc := 43) dX10_feed_43 rfl hL
  · refine ev_aload_n (pc := 44) (i := 0) dX10_feed_44 rfl rfl ?_
    refine ev_iload_n (pc := 45) (i := 1) dX10_feed_45 rfl rfl ?_
    obtain ⟨r18, h19, hc20, hL⟩ := cl_un hL
    refine evB_callV_V (pc := 46) (M_Md_put hc20) dX10_feed_46 mt_Md_put st_Md_put ml_Md_115 hs1 (by decide) ⟨_, rfl, rfl⟩ (Nat.le_of_ble_eq_true rfl) rfl rfl (Nat.le_trans sm_z (by decide)) ?_
    refine ev_aload_n (pc := 49) (i := 0) dX10_feed_49 rfl rfl ?_
    refine ev_iload_n (pc := 50) (i := 2) dX10_feed_50 rfl rfl ?_
    obtain ⟨r21, h22, hc23, hL⟩ := cl_un hL
    refine evB_callV_V (pc := 51) (M_Md_put hc23) dX10_feed_51 mt_Md_put st_Md_put ml_Md_115 hs1 (by decide) ⟨_, rfl, rfl⟩ (Nat.le_of_ble_eq_true rfl) rfl rfl (Nat.le_trans sm_z (by decide)) ?_
    refine ev_aload_n (pc := 54) (i := 0) dX10_feed_54 rfl rfl ?_
    refine ev_iload_n (pc := 55) (i := 3) dX10_feed_55 rfl rfl ?_
    obtain ⟨r24, h25, hc26, hL⟩ := cl_un hL
    refine evB_callV_V (pc := 56) (M_Md_put hc26) dX10_feed_56 mt_Md_put st_Md_put ml_Md_115 hs1 (by decide) ⟨_, rfl, rfl⟩ (Nat.le_of_ble_eq_true rfl) rfl rfl (Nat.le_trans sm_z (by decide)) ?_
    refine ev_aload_n (pc := 59) (i := 0) dX10_feed_59 rfl rfl ?_
    refine ev_iload (pc := 60) dX10_feed_60 rfl ?_
    obtain ⟨r27, h28, hc29, hL⟩ := cl_un hL
    refine evB_callV_V (pc := 62) (M_Md_put hc29) dX10_feed_62 mt_Md_put st_Md_put ml_Md_115 hs1 (by decide) ⟨_, rfl, rfl⟩ (Nat.le_of_ble_eq_true rfl) rfl rfl (Nat.le_trans sm_z (by decide)) ?_
    refine ev_aload_n (pc := 65) (i := 0) dX10_feed_65 rfl rfl ?_
    refine ev_iload (pc := 66) dX10_feed_66 rfl ?_
    obtain ⟨r30, h31, hc32, hL⟩ := cl_un hL
    refine evB_callV_V (pc := 68) (M_Md_put hc32) dX10_feed_68 mt_Md_put st_Md_put ml_Md_115 hs1 (by decide) ⟨_, rfl, rfl⟩ (Nat.le_of_ble_eq_true rfl) rfl rfl (Nat.le_trans sm_z (by decide)) ?_
    refine ev_aload_n (pc := 71) (i := 0) dX10_feed_71 rfl rfl ?_
    refine ev_get (pc := 72) (c9 := 10) (k9 := 6) dX10_feed_72 fl_Md_109 (by decide) hs1 gv10_6 ?_
    exact evB_iret (pc := 75) dX10_feed_75 rfl hL
set_option maxHeartbeats 1000000 in
set_option maxRecDepth 100000 in
theorem M_Md_liking {ω : Wd} {z : Nat → Prop} {h h' : Hp} {a0 a1 a2 r : Int}  (hL : Md_liking h a0 a1 a2 = some (r, h')) : CtB ω N_Md_liking 2 [aV ω a0, iV a1, iV a2] z h (some (iV r)) h' := by
  unfold Md_liking at hL
  refine Ct_of (lv := [some (aV ω a0), some (iV a1), some (iV a2)]) (by decide) (Nat.le_trans (sl_1 (cat_aV _ _) (sl_1 (cat_iV _) (sl_1 (cat_iV _) sl_z))) (Nat.le_of_ble_eq_true rfl)) (la_1 (cat_aV _ _) (la_1 (cat_iV _) (la_1 (cat_iV _) la_z))) ?_
  refine ev_aload_n (pc := 0) (i := 0) dX10_liking_0 rfl rfl ?_
  obtain ⟨hs1, hL⟩ := cC_un hL
  refine ev_get (pc := 1) (c9 := 10) (k9 := 32) dX10_liking_1 fl_Md_61 (by decide) hs1 (gv10_32 hs1) ?_
  refine ev_iload_n (pc := 4) (i := 1) dX10_liking_4 rfl rfl ?_
  obtain ⟨r2, h3, hc4, hL⟩ := cl_un hL
  refine evB_callS_I (pc := 5) (M_Md_lonely hc4) dX10_liking_5 mt_Md_lonely st_Md_lonely ml_Md_334 (Nat.le_of_ble_eq_true rfl) rfl rfl (Nat.le_trans sm_z (by decide)) ?_
  refine ev_aload_n (pc := 8) (i := 0) dX10_liking_8 rfl rfl ?_
  refine ev_get (pc := 9) (c9 := 10) (k9 := 32) dX10_liking_9 fl_Md_61 (by decide) hs1 (gv10_32 hs1) ?_
  refine ev_bipush (pc := 12) dX10_liking_12 (by decide) ?_
  refine ev_iconst (pc := 14) dX10_liking_14 ?_
  refine ev_iload_n (pc := 15) (i := 2) dX10_liking_15 rfl rfl ?_
  refine ev_imul (pc := 16) dX10_liking_16 ?_
  refine ev_iadd (pc := 17) dX10_liking_17 ?_
  refine ev_iconst (pc := 18) dX10_liking_18 ?_
  refine ev_iadd (pc := 19) dX10_liking_19 ?_
  obtain ⟨q5a, q5b, q5c, hL⟩ := cX_un hL
  refine ev_iald (pc := 20) dX10_liking_20 q5a q5b q5c ?_
  refine ev_isub (pc := 21) dX10_liking_21 ?_
  exact evB_iret (pc := 22) dX10_liking_22 rfl hL
set_option maxHeartbeats 1000000 in
set_option maxRecDepth 100000 in
theorem M_Md_has0 {ω : Wd} {z : Nat → Prop} {h h' : Hp} {a0 a1 r : Int}  (hL : Md_has0 h a0 a1 = some (r, h')) : CtB ω N_Md_has0 3 [aV ω a0, iV a1] z h (some (iV r)) h' := by
  unfold Md_has0 at hL
  refine Ct_of (lv := [some (aV ω a0), some (iV a1)]) (by decide) (Nat.le_trans (sl_1 (cat_aV _ _) (sl_1 (cat_iV _) sl_z)) (Nat.le_of_ble_eq_true rfl)) (la_1 (cat_aV _ _) (la_1 (cat_iV _) la_z)) ?_
  refine ev_aload_n (pc := 0) (i := 0) dX10_has0_0 rfl rfl ?_
  obtain ⟨hs1, hL⟩ := cC_un hL
  refine ev_get (pc := 1) (c9 := 10) (k9 := 38) dX10_has0_1 fl_Md_81 (by decide) hs1 (gv10_38 hs1) ?_
  refine ev_iload_n (pc := 4) (i := 1) dX10_has0_4 rfl rfl ?_
  obtain ⟨q2a, q2b, q2c, hL⟩ := cX_un hL
  refine ev_iald (pc := 5) dX10_has0_5 q2a q2b q2c ?_
  refine ev_bipush (pc := 6) dX10_has0_6 (by decide) ?_
  refine ev_icmp_ne (pc := 8) (tgt := 15) dX10_has0_8 rfl hL rfl (fun hL => ?_) (fun hL => ?_)
  · refine ev_iconst (pc := 11) dX10_has0_11 ?_
    refine ev_goto (pc := 12) (tgt := 26) dX10_has0_12 rfl ?_
    exact evB_iret (pc := 26) dX10_has0_26 rfl hL
  · refine ev_aload_n (pc := 15) (i := 0) dX10_has0_15 rfl rfl ?_
    refine ev_iload_n (pc := 16) (i := 1) dX10_has0_16 rfl rfl ?_
    refine ev_aload_n (pc := 17) (i := 0) dX10_has0_17 rfl rfl ?_
    refine ev_get (pc := 18) (c9 := 10) (k9 := 38) dX10_has0_18 fl_Md_81 (by decide) hs1 (gv10_38 hs1) ?_
    refine ev_iload_n (pc := 21) (i := 1) dX10_has0_21 rfl rfl ?_
    obtain ⟨q3a, q3b, q3c, hL⟩ := cX_un hL
    refine ev_iald (pc := 22) dX10_has0_22 q3a q3b q3c ?_
    obtain ⟨r4, h5, hc6, hL⟩ := cl_un hL
    refine evB_callV_I (pc := 23) (M_Md_liking hc6) dX10_has0_23 mt_Md_liking st_Md_liking ml_Md_457 hs1 (by decide) ⟨_, rfl, rfl⟩ (Nat.le_of_ble_eq_true rfl) rfl rfl (Nat.le_trans sm_z (by decide)) ?_
    exact evB_iret (pc := 26) dX10_has0_26 rfl hL
set_option maxHeartbeats 1000000 in
set_option maxRecDepth 100000 in
theorem KMd_isFirm_b57_body {ω : Wd} {z : Nat → Prop} {k45 : Hp × Int × Int → Option (Int × Hp)} {k57 : Hp × Int × Int × Int → Option (Int × Hp)} {h h' : Hp} {x0 x1 x2 r : Int} (hk45 : ∀ s o, k45 s = some o → EvB ω N_Md_isFirm 4 (QB (some (iV o.1)) z o.2) z s.1 45 [some (aV ω s.2.1), some (iV s.2.2), none] []) (hk57 : ∀ s o, k57 s = some o → EvB ω N_Md_isFirm 4 (QB (some (iV o.1)) z o.2) z s.1 57 [some (aV ω s.2.1), some (iV s.2.2.1), some (iV s.2.2.2)] []) (hL : Md_isFirm_b57_body k45 k57 h x0 x1 x2 = some (r, h')) : EvB ω N_Md_isFirm 4 (QB (some (iV r)) z h') z h 57 [some (aV ω x0), some (iV x1), some (iV x2)] [] := by
  unfold Md_isFirm_b57_body at hL
  refine ev_iload_n (pc := 57) (i := 2) dX10_isFirm_57 rfl rfl ?_
  refine ev_aload_n (pc := 58) (i := 0) dX10_isFirm_58 rfl rfl ?_
  obtain ⟨hs9, hL⟩ := cC_un hL
  refine ev_get (pc := 59) (c9 := 10) (k9 := 26) dX10_isFirm_59 fl_Md_294 (by decide) hs9 gv10_26 ?_
  refine ev_icmp_ge (pc := 62) (tgt := 111) dX10_isFirm_62 rfl hL rfl (fun hL => ?_) (fun hL => ?_)
  · refine ev_aload_n (pc := 65) (i := 0) dX10_isFirm_65 rfl rfl ?_
    refine ev_get (pc := 66) (c9 := 10) (k9 := 38) dX10_isFirm_66 fl_Md_81 (by decide) hs9 (gv10_38 hs9) ?_
    refine ev_iload_n (pc := 69) (i := 1) dX10_isFirm_69 rfl rfl ?_
    obtain ⟨q10a, q10b, q10c, hL⟩ := cX_un hL
    refine ev_iald (pc := 70) dX10_isFirm_70 q10a q10b q10c ?_
    refine ev_iload_n (pc := 71) (i := 2) dX10_isFirm_71 rfl rfl ?_
    refine ev_icmp_eq (pc := 72) (tgt := 105) dX10_isFirm_72 rfl hL rfl (fun hL => ?_) (fun hL => ?_)
    · refine ev_iinc (pc := 105) dX10_isFirm_105 rfl (lnl_v rfl rfl) (Nat.le_of_ble_eq_true rfl) ?_
      refine ev_goto (pc := 108) (tgt := 57) dX10_isFirm_108 rfl ?_
      exact ev_le (lvle_s (lvle_s (lvle_s lvle_z))) (hk57 _ _ hL)
    · refine ev_aload_n (pc := 75) (i := 0) dX10_isFirm_75 rfl rfl ?_
      refine ev_iload_n (pc := 76) (i := 1) dX10_isFirm_76 rfl rfl ?_
      refine ev_iload_n (pc := 77) (i := 2) dX10_isFirm_77 rfl rfl ?_
      obtain ⟨r11, h12, hc13, hL⟩ := cl_un hL
      refine evB_callV_I (pc := 78) (M_Md_liking hc13) dX10_isFirm_78 mt_Md_liking st_Md_liking ml_Md_457 hs9 (by decide) ⟨_, rfl, rfl⟩ (Nat.le_of_ble_eq_true rfl) rfl rfl (Nat.le_trans sm_z (by decide)) ?_
      refine ev_aload_n (pc := 81) (i := 0) dX10_isFirm_81 rfl rfl ?_
      refine ev_iload_n (pc := 82) (i := 1) dX10_isFirm_82 rfl rfl ?_
      obtain ⟨r14, h15, hc16, hL⟩ := cl_un hL
      refine evB_callV_I (pc := 83) (M_Md_has0 hc16) dX10_isFirm_83 mt_Md_has0 st_Md_has0 ml_Md_460 hs9 (by decide) ⟨_, rfl, rfl⟩ (Nat.le_of_ble_eq_true rfl) rfl rfl (Nat.le_trans (sm_1 (cat_iV _) sm_z) (by decide)) ?_
      refine ev_icmp_le (pc := 86) (tgt := 105) dX10_isFirm_86 rfl hL rfl (fun hL => ?_) (fun hL => ?_)
      · refine ev_aload_n (pc := 89) (i := 0) dX10_isFirm_89 rfl rfl ?_
        refine ev_iload_n (pc := 90) (i := 2) dX10_isFirm_90 rfl rfl ?_
        refine ev_iload_n (pc := 91) (i := 1) dX10_isFirm_91 rfl rfl ?_
        obtain ⟨r17, h18, hc19, hL⟩ := cl_un hL
        refine evB_callV_I (pc := 92) (M_Md_liking hc19) dX10_isFirm_92 mt_Md_liking st_Md_liking ml_Md_457 hs9 (by decide) ⟨_, rfl, rfl⟩ (Nat.le_of_ble_eq_true rfl) rfl rfl (Nat.le_trans sm_z (by decide)) ?_
        refine ev_aload_n (pc := 95) (i := 0) dX10_isFirm_95 rfl rfl ?_
        refine ev_iload_n (pc := 96) (i := 2) dX10_isFirm_96 rfl rfl ?_
        obtain ⟨r20, h21, hc22, hL⟩ := cl_un hL
        refine evB_callV_I (pc := 97) (M_Md_has0 hc22) dX10_isFirm_97 mt_Md_has0 st_Md_has0 ml_Md_460 hs9 (by decide) ⟨_, rfl, rfl⟩ (Nat.le_of_ble_eq_true rfl) rfl rfl (Nat.le_trans (sm_1 (cat_iV _) sm_z) (by decide)) ?_
        refine ev_icmp_le (pc := 100) (tgt := 105) dX10_isFirm_100 rfl hL rfl (fun hL => ?_) (fun hL => ?_)
        · refine ev_iconst (pc := 103) dX10_isFirm_103 ?_
          exact evB_zret (pc := 104) dX10_isFirm_104 rfl rfl hL
        · refine ev_iinc (pc := 105) dX10_isFirm_105 rfl (lnl_v rfl rfl) (Nat.le_of_ble_eq_true rfl) ?_
          refine ev_goto (pc := 108) (tgt := 57) dX10_isFirm_108 rfl ?_
          exact ev_le (lvle_s (lvle_s (lvle_s lvle_z))) (hk57 _ _ hL)
      · refine ev_iinc (pc := 105) dX10_isFirm_105 rfl (lnl_v rfl rfl) (Nat.le_of_ble_eq_true rfl) ?_
        refine ev_goto (pc := 108) (tgt := 57) dX10_isFirm_108 rfl ?_
        exact ev_le (lvle_s (lvle_s (lvle_s lvle_z))) (hk57 _ _ hL)
  · refine ev_iinc (pc := 111) dX10_isFirm_111 rfl (lnl_v (cat_aV _ _) rfl) (Nat.le_of_ble_eq_true rfl) ?_
    refine ev_goto (pc := 114) (tgt := 45) dX10_isFirm_114 rfl ?_
    exact ev_le (lvle_s (lvle_s (lvle_n lvle_z))) (hk45 _ _ hL)
set_option maxHeartbeats 1000000 in
set_option maxRecDepth 100000 in
theorem KMd_isFirm_b57 {ω : Wd} {z : Nat → Prop} {k45 : Hp × Int × Int → Option (Int × Hp)} {h h' : Hp} {x0 x1 x2 r : Int} (hk45 : ∀ s o, k45 s = some o → EvB ω N_Md_isFirm 4 (QB (some (iV o.1)) z o.2) z s.1 45 [some (aV ω s.2.1), some (iV s.2.2), none] []) (hL : Md_isFirm_b57 k45 h x0 x1 x2 = some (r, h')) : EvB ω N_Md_isFirm 4 (QB (some (iV r)) z h') z h 57 [some (aV ω x0), some (iV x1), some (iV x2)] [] := by
  unfold Md_isFirm_b57 at hL
  refine itr_link (P := fun (s : Hp × Int × Int × Int) (o : Int × Hp) => EvB ω N_Md_isFirm 4 (QB (some (iV o.1)) z o.2) z s.1 57 [some (aV ω s.2.1), some (iV s.2.2.1), some (iV s.2.2.2)] []) ?_ _ _ _ hL
  intro k hk s o h9
  have h10 := KMd_isFirm_b57_body (ω := ω) (z := z) (k45 := k45) (k57 := k) (h := s.1) (x0 := s.2.1) (x1 := s.2.2.1) (x2 := s.2.2.2) (r := o.1) (h' := o.2) hk45
  exact h10 hk h9
set_option maxHeartbeats 1000000 in
set_option maxRecDepth 100000 in
theorem KMd_isFirm_b45_body {ω : Wd} {z : Nat → Prop}  {k45 : Hp × Int × Int → Option (Int × Hp)} {h h' : Hp} {x0 x1 r : Int}  (hk45 : ∀ s o, k45 s = some o → EvB ω N_Md_isFirm 4 (QB (some (iV o.1)) z o.2) z s.1 45 [some (aV ω s.2.1), some (iV s.2.2), none] []) (hL : Md_isFirm_b45_body  k45 h x0 x1 = some (r, h')) : EvB ω N_Md_isFirm 4 (QB (some (iV r)) z h') z h 45 [some (aV ω x0), some (iV x1), none] [] := by
  unfold Md_isFirm_b45_body at hL
  refine ev_iload_n (pc := 45) (i := 1) dX10_isFirm_45 rfl rfl ?_
  refine ev_aload_n (pc := 46) (i := 0) dX10_isFirm_46 rfl rfl ?_
  obtain ⟨hs7, hL⟩ := cC_un hL
  refine ev_get (pc := 47) (c9 := 10) (k9 := 26) dX10_isFirm_47 fl_Md_294 (by decide) hs7 gv10_26 ?_
  refine ev_icmp_ge (pc := 50) (tgt := 117) dX10_isFirm_50 rfl hL rfl (fun hL => ?_) (fun hL => ?_)
  · refine ev_iload_n (pc := 53) (i := 1) dX10_isFirm_53 rfl rfl ?_
    refine ev_iconst (pc := 54) dX10_isFirm_54 ?_
    refine ev_iadd (pc := 55) dX10_isFirm_55 ?_
    refine ev_bdI hL (fun v8 hL => ?_)
    refine ev_istore_n (pc := 56) (i := 2) dX10_isFirm_56 rfl (lnl_v rfl rfl) (Nat.le_of_ble_eq_true rfl) ?_
    exact ev_le (lvle_s (lvle_s (lvle_s lvle_z))) (KMd_isFirm_b57 hk45 hL)
  · refine ev_iconst (pc := 117) dX10_isFirm_117 ?_
    exact evB_zret (pc := 118) dX10_isFirm_118 rfl rfl hL
set_option maxHeartbeats 1000000 in
set_option maxRecDepth 100000 in
theorem KMd_isFirm_b45 {ω : Wd} {z : Nat → Prop}  {h h' : Hp} {x0 x1 r : Int}  (hL : Md_isFirm_b45 h x0 x1 = some (r, h')) : EvB ω N_Md_isFirm 4 (QB (some (iV r)) z h') z h 45 [some (aV ω x0), some (iV x1), none] [] := by
  unfold Md_isFirm_b45 at hL
  refine itr_link (P := fun (s : Hp × Int × Int) (o : Int × Hp) => EvB ω N_Md_isFirm 4 (QB (some (iV o.1)) z o.2) z s.1 45 [some (aV ω s.2.1), some (iV s.2.2), none] []) ?_ _ _ _ hL
  intro k hk s o h9
  have h10 := KMd_isFirm_b45_body (ω := ω) (z := z) (k45 := k) (h := s.1) (x0 := s.2.1) (x1 := s.2.2) (r := o.1) (h' := o.2) 
  exact h10 hk h9
set_option maxHeartbeats 1000000 in
set_option maxRecDepth 100000 in
theorem KMd_isFirm_b2_body {ω : Wd} {z : Nat → Prop}  {k2 : Hp × Int × Int → Option (Int × Hp)} {h h' : Hp} {x0 x1 r : Int}  (hk2 : ∀ s o, k2 s = some o → EvB ω N_Md_isFirm 4 (QB (some (iV o.1)) z o.2) z s.1 2 [some (aV ω s.2.1), some (iV s.2.2), none] []) (hL : Md_isFirm_b2_body  k2 h x0 x1 = some (r, h')) : EvB ω N_Md_isFirm 4 (QB (some (iV r)) z h') z h 2 [some (aV ω x0), some (iV x1), none] [] := by
  unfold Md_isFirm_b2_body at hL
  refine ev_iload_n (pc := 2) (i := 1) dX10_isFirm_2 rfl rfl ?_
  refine ev_aload_n (pc := 3) (i := 0) dX10_isFirm_3 rfl rfl ?_
  obtain ⟨hs1, hL⟩ := cC_un hL
  refine ev_get (pc := 4) (c9 := 10) (k9 := 26) dX10_isFirm_4 fl_Md_294 (by decide) hs1 gv10_26 ?_
  refine ev_icmp_ge (pc := 7) (tgt := 43) dX10_isFirm_7 rfl hL rfl (fun hL => ?_) (fun hL => ?_)
  · refine ev_aload_n (pc := 10) (i := 0) dX10_isFirm_10 rfl rfl ?_
    refine ev_get (pc := 11) (c9 := 10) (k9 := 38) dX10_isFirm_11 fl_Md_81 (by decide) hs1 (gv10_38 hs1) ?_
    refine ev_iload_n (pc := 14) (i := 1) dX10_isFirm_14 rfl rfl ?_
    obtain ⟨q2a, q2b, q2c, hL⟩ := cX_un hL
    refine ev_iald (pc := 15) dX10_isFirm_15 q2a q2b q2c ?_
    refine ev_bipush (pc := 16) dX10_isFirm_16 (by decide) ?_
    refine ev_icmp_eq (pc := 18) (tgt := 37) dX10_isFirm_18 rfl hL rfl (fun hL => ?_) (fun hL => ?_)
    · refine ev_iinc (pc := 37) dX10_isFirm_37 rfl (lnl_v (cat_aV _ _) rfl) (Nat.le_of_ble_eq_true rfl) ?_
      refine ev_goto (pc := 40) (tgt := 2) dX10_isFirm_40 rfl ?_
      exact ev_le (lvle_s (lvle_s (lvle_n lvle_z))) (hk2 _ _ hL)
    · refine ev_aload_n (pc := 21) (i := 0) dX10_isFirm_21 rfl rfl ?_
      refine ev_iload_n (pc := 22) (i := 1) dX10_isFirm_22 rfl rfl ?_
      refine ev_aload_n (pc := 23) (i := 0) dX10_isFirm_23 rfl rfl ?_
      refine ev_get (pc := 24) (c9 := 10) (k9 := 38) dX10_isFirm_24 fl_Md_81 (by decide) hs1 (gv10_38 hs1) ?_
      refine ev_iload_n (pc := 27) (i := 1) dX10_isFirm_27 rfl rfl ?_
      obtain ⟨q3a, q3b, q3c, hL⟩ := cX_un hL
      refine ev_iald (pc := 28) dX10_isFirm_28 q3a q3b q3c ?_
      obtain ⟨r4, h5, hc6, hL⟩ := cl_un hL
      refine evB_callV_I (pc := 29) (M_Md_liking hc6) dX10_isFirm_29 mt_Md_liking st_Md_liking ml_Md_457 hs1 (by decide) ⟨_, rfl, rfl⟩ (Nat.le_of_ble_eq_true rfl) rfl rfl (Nat.le_trans sm_z (by decide)) ?_
      refine ev_if_ge (pc := 32) (tgt := 37) dX10_isFirm_32 rfl hL rfl (fun hL => ?_) (fun hL => ?_)
      · refine ev_iconst (pc := 35) dX10_isFirm_35 ?_
        exact evB_zret (pc := 36) dX10_isFirm_36 rfl rfl hL
      · refine ev_iinc (pc := 37) dX10_isFirm_37 rfl (lnl_v (cat_aV _ _) rfl) (Nat.le_of_ble_eq_true rfl) ?_
        refine ev_goto (pc := 40) (tgt := 2) dX10_isFirm_40 rfl ?_
        exact ev_le (lvle_s (lvle_s (lvle_n lvle_z))) (hk2 _ _ hL)
  · refine ev_iconst (pc := 43) dX10_isFirm_43 ?_
    refine ev_istore_n (pc := 44) (i := 1) dX10_isFirm_44 rfl (lnl_v (cat_aV _ _) rfl) (Nat.le_of_ble_eq_true rfl) ?_
    exact ev_le (lvle_s (lvle_s (lvle_n lvle_z))) (KMd_isFirm_b45  hL)
set_option maxHeartbeats 1000000 in
set_option maxRecDepth 100000 in
theorem KMd_isFirm_b2 {ω : Wd} {z : Nat → Prop}  {h h' : Hp} {x0 x1 r : Int}  (hL : Md_isFirm_b2 h x0 x1 = some (r, h')) : EvB ω N_Md_isFirm 4 (QB (some (iV r)) z h') z h 2 [some (aV ω x0), some (iV x1), none] [] := by
  unfold Md_isFirm_b2 at hL
  refine itr_link (P := fun (s : Hp × Int × Int) (o : Int × Hp) => EvB ω N_Md_isFirm 4 (QB (some (iV o.1)) z o.2) z s.1 2 [some (aV ω s.2.1), some (iV s.2.2), none] []) ?_ _ _ _ hL
  intro k hk s o h9
  have h10 := KMd_isFirm_b2_body (ω := ω) (z := z) (k2 := k) (h := s.1) (x0 := s.2.1) (x1 := s.2.2) (r := o.1) (h' := o.2) 
  exact h10 hk h9
set_option maxHeartbeats 1000000 in
set_option maxRecDepth 100000 in
theorem M_Md_isFirm {ω : Wd} {z : Nat → Prop} {h h' : Hp} {a0 r : Int}  (hL : Md_isFirm h a0 = some (r, h')) : CtB ω N_Md_isFirm 4 [aV ω a0] z h (some (iV r)) h' := by
  unfold Md_isFirm at hL
  refine Ct_of (lv := [some (aV ω a0), none, none]) (by decide) (Nat.le_trans (sl_1 (cat_aV _ _) sl_z) (Nat.le_of_ble_eq_true rfl)) (la_1 (cat_aV _ _) (la_n (la_n la_z))) ?_
  refine ev_iconst (pc := 0) dX10_isFirm_0 ?_
  refine ev_istore_n (pc := 1) (i := 1) dX10_isFirm_1 rfl (lnl_v (cat_aV _ _) rfl) (Nat.le_of_ble_eq_true rfl) ?_
  exact ev_le (lvle_s (lvle_s (lvle_n lvle_z))) (KMd_isFirm_b2  hL)
set_option maxHeartbeats 1000000 in
set_option maxRecDepth 100000 in
theorem KMd_rowOf_b4_body {ω : Wd} {z : Nat → Prop}  {k4 : Hp × Int × Int × Int → Option (Int × Hp)} {h h' : Hp} {x0 x1 x2 r : Int}  (hk4 : ∀ s o, k4 s = some o → EvB ω N_Md_rowOf 1 (QB (some (iV o.1)) z o.2) z s.1 4 [some (aV ω s.2.1), some (iV s.2.2.1), some (iV s.2.2.2)] []) (hL : Md_rowOf_b4_body  k4 h x0 x1 x2 = some (r, h')) : EvB ω N_Md_rowOf 1 (QB (some (iV r)) z h') z h 4 [some (aV ω x0), some (iV x1), some (iV x2)] [] := by
  unfold Md_rowOf_b4_body at hL
  refine ev_iload_n (pc := 4) (i := 2) dX10_rowOf_4 rfl rfl ?_
  refine ev_aload_n (pc := 5) (i := 0) dX10_rowOf_5 rfl rfl ?_
  obtain ⟨hs1, hL⟩ := cC_un hL
  refine ev_get (pc := 6) (c9 := 10) (k9 := 26) dX10_rowOf_6 fl_Md_294 (by decide) hs1 gv10_26 ?_
  refine ev_icmp_ge (pc := 9) (tgt := 45) dX10_rowOf_9 rfl hL rfl (fun hL => ?_) (fun hL => ?_)
  · refine ev_bipush (pc := 12) dX10_rowOf_12 (by decide) ?_
    refine ev_iload_n (pc := 14) (i := 1) dX10_rowOf_14 rfl rfl ?_
    refine ev_imul (pc := 15) dX10_rowOf_15 ?_
    refine ev_aload_n (pc := 16) (i := 0) dX10_rowOf_16 rfl rfl ?_
    refine ev_get (pc := 17) (c9 := 10) (k9 := 38) dX10_rowOf_17 fl_Md_81 (by decide) hs1 (gv10_38 hs1) ?_
    refine ev_iload_n (pc := 20) (i := 2) dX10_rowOf_20 rfl rfl ?_
    obtain ⟨q2a, q2b, q2c, hL⟩ := cX_un hL
    refine ev_iald (pc := 21) dX10_rowOf_21 q2a q2b q2c ?_
    refine ev_iconst (pc := 22) dX10_rowOf_22 ?_
    refine ev_icmp_ne (pc := 23) (tgt := 31) dX10_rowOf_23 rfl hL rfl (fun hL => ?_) (fun hL => ?_)
    · refine ev_bipush (pc := 26) dX10_rowOf_26 (by decide) ?_
      refine ev_goto (pc := 28) (tgt := 37) dX10_rowOf_28 rfl ?_
      refine ev_iadd (pc := 37) dX10_rowOf_37 ?_
      refine ev_bdI hL (fun v3 hL => ?_)
      refine ev_istore_n (pc := 38) (i := 1) dX10_rowOf_38 rfl (lnl_v (cat_aV _ _) rfl) (Nat.le_of_ble_eq_true rfl) ?_
      refine ev_iinc (pc := 39) dX10_rowOf_39 rfl (lnl_v rfl rfl) (Nat.le_of_ble_eq_true rfl) ?_
      refine ev_goto (pc := 42) (tgt := 4) dX10_rowOf_42 rfl ?_
      exact ev_le (lvle_s (lvle_s (lvle_s lvle_z))) (hk4 _ _ hL)
    · refine ev_aload_n (pc := 31) (i := 0) dX10_rowOf_31 rfl rfl ?_
      refine ev_get (pc := 32) (c9 := 10) (k9 := 38) dX10_rowOf_32 fl_Md_81 (by decide) hs1 (gv10_38 hs1) ?_
      refine ev_iload_n (pc := 35) (i := 2) dX10_rowOf_35 rfl rfl ?_
      obtain ⟨q4a, q4b, q4c, hL⟩ := cX_un hL
      refine ev_iald (pc := 36) dX10_rowOf_36 q4a q4b q4c ?_
      refine ev_iadd (pc := 37) dX10_rowOf_37 ?_
      refine ev_bdI hL (fun v5 hL => ?_)
      refine ev_istore_n (pc := 38) (i := 1) dX10_rowOf_38 rfl (lnl_v (cat_aV _ _) rfl) (Nat.le_of_ble_eq_true rfl) ?_
      refine ev_iinc (pc := 39) dX10_rowOf_39 rfl (lnl_v rfl rfl) (Nat.le_of_ble_eq_true rfl) ?_
      refine ev_goto (pc := 42) (tgt := 4) dX10_rowOf_42 rfl ?_
      exact ev_le (lvle_s (lvle_s (lvle_s lvle_z))) (hk4 _ _ hL)
  · refine ev_iload_n (pc := 45) (i := 1) dX10_rowOf_45 rfl rfl ?_
    exact evB_iret (pc := 46) dX10_rowOf_46 rfl hL
set_option maxHeartbeats 1000000 in
set_option maxRecDepth 100000 in
theorem KMd_rowOf_b4 {ω : Wd} {z : Nat → Prop}  {h h' : Hp} {x0 x1 x2 r : Int}  (hL : Md_rowOf_b4 h x0 x1 x2 = some (r, h')) : EvB ω N_Md_rowOf 1 (QB (some (iV r)) z h') z h 4 [some (aV ω x0), some (iV x1), some (iV x2)] [] := by
  unfold Md_rowOf_b4 at hL
  refine itr_link (P := fun (s : Hp × Int × Int × Int) (o : Int × Hp) => EvB ω N_Md_rowOf 1 (QB (some (iV o.1)) z o.2) z s.1 4 [some (aV ω s.2.1), some (iV s.2.2.1), some (iV s.2.2.2)] []) ?_ _ _ _ hL
  intro k hk s o h9
  have h10 := KMd_rowOf_b4_body (ω := ω) (z := z) (k4 := k) (h := s.1) (x0 := s.2.1) (x1 := s.2.2.1) (x2 := s.2.2.2) (r := o.1) (h' := o.2) 
  exact h10 hk h9
set_option maxHeartbeats 1000000 in
set_option maxRecDepth 100000 in
theorem M_Md_rowOf {ω : Wd} {z : Nat → Prop} {h h' : Hp} {a0 r : Int}  (hL : Md_rowOf h a0 = some (r, h')) : CtB ω N_Md_rowOf 1 [aV ω a0] z h (some (iV r)) h' := by
  unfold Md_rowOf at hL
  refine Ct_of (lv := [some (aV ω a0), none, none]) (by decide) (Nat.le_trans (sl_1 (cat_aV _ _) sl_z) (Nat.le_of_ble_eq_true rfl)) (la_1 (cat_aV _ _) (la_n (la_n la_z))) ?_
  refine ev_iconst (pc := 0) dX10_rowOf_0 ?_
  refine ev_istore_n (pc := 1) (i := 1) dX10_rowOf_1 rfl (lnl_v (cat_aV _ _) rfl) (Nat.le_of_ble_eq_true rfl) ?_
  refine ev_iconst (pc := 2) dX10_rowOf_2 ?_
  refine ev_istore_n (pc := 3) (i := 2) dX10_rowOf_3 rfl (lnl_v rfl rfl) (Nat.le_of_ble_eq_true rfl) ?_
  exact ev_le (lvle_s (lvle_s (lvle_s lvle_z))) (KMd_rowOf_b4  hL)
set_option maxHeartbeats 1000000 in
set_option maxRecDepth 100000 in
theorem KMd_goFirm_b61 {ω : Wd} {z : Nat → Prop} {d0 : Nat} {kf : Hp × Int × Int → Option (Int × Hp)}  {h h' : Hp} {x0 r : Int} (hkf : ∀ s o, kf s = some o → CtB ω N_Md_goFirm d0 [aV ω s.2.1, iV s.2.2] z s.1 none o.2) (hL : Md_goFirm_b61 kf h x0 = some (r, h')) : EvB ω N_Md_goFirm (d0 + 5) (QB none z h') z h 61 [some (aV ω x0), none, none, none] [] := by
  unfold Md_goFirm_b61 at hL
  refine ev_aload_n (pc := 61) (i := 0) dX10_goFirm_61 rfl rfl ?_
  refine ev_dup (pc := 62) dX10_goFirm_62 (cat_aV _ _) ?_
  obtain ⟨hs11, hL⟩ := cC_un hL
  refine ev_get (pc := 63) (c9 := 10) (k9 := 46) dX10_goFirm_63 fl_Md_466 (by decide) hs11 gv10_46 ?_
  refine ev_iconst (pc := 66) dX10_goFirm_66 ?_
  refine ev_iadd (pc := 67) dX10_goFirm_67 ?_
  refine evB_putI (pc := 68) (c9 := 10) (k9 := 46) (kI := 46) dX10_goFirm_68 fl_Md_466 hs11 (by decide) (fun q hq => by cases hq; rfl) rfl rfl rfl ?_
  refine ev_puG hL (fun h12 hL => ?_)
  exact evB_vret (pc := 71) dX10_goFirm_71 rfl hL
set_option maxHeartbeats 1000000 in
set_option maxRecDepth 100000 in
theorem KMd_goFirm_b76_body {ω : Wd} {z : Nat → Prop} {d0 : Nat} {kf : Hp × Int × Int → Option (Int × Hp)}  {k76 : Hp × Int × Int × Int → Option (Int × Hp)} {h h' : Hp} {x0 x2 x3 r : Int} (hkf : ∀ s o, kf s = some o → CtB ω N_Md_goFirm d0 [aV ω s.2.1, iV s.2.2] z s.1 none o.2) (hk76 : ∀ s o, k76 s = some o → EvB ω N_Md_goFirm (d0 + 5) (QB none z o.2) z s.1 76 [some (aV ω s.2.1), none, some (iV s.2.2.1), some (iV s.2.2.2)] []) (hL : Md_goFirm_b76_body kf k76 h x0 x2 x3 = some (r, h')) : EvB ω N_Md_goFirm (d0 + 5) (QB none z h') z h 76 [some (aV ω x0), none, some (iV x2), some (iV x3)] [] := by
  unfold Md_goFirm_b76_body at hL
  refine ev_iload_n (pc := 76) (i := 3) dX10_goFirm_76 rfl rfl ?_
  refine ev_aload_n (pc := 77) (i := 0) dX10_goFirm_77 rfl rfl ?_
  obtain ⟨hs14, hL⟩ := cC_un hL
  refine ev_get (pc := 78) (c9 := 10) (k9 := 26) dX10_goFirm_78 fl_Md_294 (by decide) hs14 gv10_26 ?_
  refine ev_icmp_ge (pc := 81) (tgt := 131) dX10_goFirm_81 rfl hL rfl (fun hL => ?_) (fun hL => ?_)
  · refine ev_aload_n (pc := 84) (i := 0) dX10_goFirm_84 rfl rfl ?_
    refine ev_get (pc := 85) (c9 := 10) (k9 := 38) dX10_goFirm_85 fl_Md_81 (by decide) hs14 (gv10_38 hs14) ?_
    refine ev_iload_n (pc := 88) (i := 3) dX10_goFirm_88 rfl rfl ?_
    obtain ⟨q15a, q15b, q15c, hL⟩ := cX_un hL
    refine ev_iald (pc := 89) dX10_goFirm_89 q15a q15b q15c ?_
    refine ev_iconst (pc := 90) dX10_goFirm_90 ?_
    refine ev_icmp_eq (pc := 91) (tgt := 97) dX10_goFirm_91 rfl hL rfl (fun hL => ?_) (fun hL => ?_)
    · refine ev_aload_n (pc := 97) (i := 0) dX10_goFirm_97 rfl rfl ?_
      refine ev_get (pc := 98) (c9 := 10) (k9 := 38) dX10_goFirm_98 fl_Md_81 (by decide) hs14 (gv10_38 hs14) ?_
      refine ev_iload_n (pc := 101) (i := 2) dX10_goFirm_101 rfl rfl ?_
      refine ev_iload_n (pc := 102) (i := 3) dX10_goFirm_102 rfl rfl ?_
      obtain ⟨q16a, q16d, q16b, q16c, hL⟩ := cY_un hL
      refine ev_iast (pc := 103) dX10_goFirm_103 q16a q16d q16b q16c ?_
      refine ev_puG hL (fun h17 hL => ?_)
      refine ev_aload_n (pc := 104) (i := 0) dX10_goFirm_104 rfl rfl ?_
      refine ev_get (pc := 105) (c9 := 10) (k9 := 38) dX10_goFirm_105 fl_Md_81 (by decide) hs14 (gv10_38 hs14) ?_
      refine ev_iload_n (pc := 108) (i := 3) dX10_goFirm_108 rfl rfl ?_
      refine ev_iload_n (pc := 109) (i := 2) dX10_goFirm_109 rfl rfl ?_
      obtain ⟨q18a, q18d, q18b, q18c, hL⟩ := cY_un hL
      refine ev_iast (pc := 110) dX10_goFirm_110 q18a q18d q18b q18c ?_
      refine ev_puG hL (fun h19 hL => ?_)
      refine ev_aload_n (pc := 111) (i := 0) dX10_goFirm_111 rfl rfl ?_
      refine ev_iload_n (pc := 112) (i := 2) dX10_goFirm_112 rfl rfl ?_
      refine ev_iconst (pc := 113) dX10_goFirm_113 ?_
      refine ev_iadd (pc := 114) dX10_goFirm_114 ?_
      obtain ⟨r20, h21, hc22, hL⟩ := cl_un hL
      refine evB_callV_V (pc := 115) (hkf _ _ hc22) dX10_goFirm_115 mt_Md_goFirm st_Md_goFirm ml_Md_475 hs14 (by decide) ⟨_, rfl, rfl⟩ (by omega) rfl rfl (Nat.le_trans sm_z (by decide)) ?_
      refine ev_aload_n (pc := 118) (i := 0) dX10_goFirm_118 rfl rfl ?_
      refine ev_get (pc := 119) (c9 := 10) (k9 := 38) dX10_goFirm_119 fl_Md_81 (by decide) hs14 (gv10_38 hs14) ?_
      refine ev_iload_n (pc := 122) (i := 3) dX10_goFirm_122 rfl rfl ?_
      refine ev_iconst (pc := 123) dX10_goFirm_123 ?_
      obtain ⟨q23a, q23d, q23b, q23c, hL⟩ := cY_un hL
      refine ev_iast (pc := 124) dX10_goFirm_124 q23a q23d q23b q23c ?_
      refine ev_puG hL (fun h24 hL => ?_)
      refine ev_iinc (pc := 125) dX10_goFirm_125 rfl (lnl_v rfl rfl) (Nat.le_of_ble_eq_true rfl) ?_
      refine ev_goto (pc := 128) (tgt := 76) dX10_goFirm_128 rfl ?_
      exact ev_le (lvle_s (lvle_n (lvle_s (lvle_s lvle_z)))) (hk76 _ _ hL)
    · refine ev_goto (pc := 94) (tgt := 125) dX10_goFirm_94 rfl ?_
      refine ev_iinc (pc := 125) dX10_goFirm_125 rfl (lnl_v rfl rfl) (Nat.le_of_ble_eq_true rfl) ?_
      refine ev_goto (pc := 128) (tgt := 76) dX10_goFirm_128 rfl ?_
      exact ev_le (lvle_s (lvle_n (lvle_s (lvle_s lvle_z)))) (hk76 _ _ hL)
  · refine ev_aload_n (pc := 131) (i := 0) dX10_goFirm_131 rfl rfl ?_
    refine ev_get (pc := 132) (c9 := 10) (k9 := 38) dX10_goFirm_132 fl_Md_81 (by decide) hs14 (gv10_38 hs14) ?_
    refine ev_iload_n (pc := 135) (i := 2) dX10_goFirm_135 rfl rfl ?_
    refine ev_bipush (pc := 136) dX10_goFirm_136 (by decide) ?_
    obtain ⟨q25a, q25d, q25b, q25c, hL⟩ := cY_un hL
    refine ev_iast (pc := 138) dX10_goFirm_138 q25a q25d q25b q25c ?_
    refine ev_puG hL (fun h26 hL => ?_)
    refine ev_aload_n (pc := 139) (i := 0) dX10_goFirm_139 rfl rfl ?_
    refine ev_iload_n (pc := 140) (i := 2) dX10_goFirm_140 rfl rfl ?_
    refine ev_iconst (pc := 141) dX10_goFirm_141 ?_
    refine ev_iadd (pc := 142) dX10_goFirm_142 ?_
    obtain ⟨r27, h28, hc29, hL⟩ := cl_un hL
    refine evB_callV_V (pc := 143) (hkf _ _ hc29) dX10_goFirm_143 mt_Md_goFirm st_Md_goFirm ml_Md_475 hs14 (by decide) ⟨_, rfl, rfl⟩ (by omega) rfl rfl (Nat.le_trans sm_z (by decide)) ?_
    refine ev_aload_n (pc := 146) (i := 0) dX10_goFirm_146 rfl rfl ?_
    refine ev_get (pc := 147) (c9 := 10) (k9 := 38) dX10_goFirm_147 fl_Md_81 (by decide) hs14 (gv10_38 hs14) ?_
    refine ev_iload_n (pc := 150) (i := 2) dX10_goFirm_150 rfl rfl ?_
    refine ev_iconst (pc := 151) dX10_goFirm_151 ?_
    obtain ⟨q30a, q30d, q30b, q30c, hL⟩ := cY_un hL
    refine ev_iast (pc := 152) dX10_goFirm_152 q30a q30d q30b q30c ?_
    refine ev_puG hL (fun h31 hL => ?_)
    exact evB_vret (pc := 153) dX10_goFirm_153 rfl hL
set_option maxHeartbeats 1000000 in
set_option maxRecDepth 100000 in
theorem KMd_goFirm_b76 {ω : Wd} {z : Nat → Prop} {d0 : Nat} {kf : Hp × Int × Int → Option (Int × Hp)}  {h h' : Hp} {x0 x2 x3 r : Int} (hkf : ∀ s o, kf s = some o → CtB ω N_Md_goFirm d0 [aV ω s.2.1, iV s.2.2] z s.1 none o.2) (hL : Md_goFirm_b76 kf h x0 x2 x3 = some (r, h')) : EvB ω N_Md_goFirm (d0 + 5) (QB none z h') z h 76 [some (aV ω x0), none, some (iV x2), some (iV x3)] [] := by
  unfold Md_goFirm_b76 at hL
  refine itr_link (P := fun (s : Hp × Int × Int × Int) (o : Int × Hp) => EvB ω N_Md_goFirm (d0 + 5) (QB none z o.2) z s.1 76 [some (aV ω s.2.1), none, some (iV s.2.2.1), some (iV s.2.2.2)] []) ?_ _ _ _ hL
  intro k hk s o h9
  have h10 := KMd_goFirm_b76_body (ω := ω) (z := z) (d0 := d0) (kf := kf) (k76 := k) (h := s.1) (x0 := s.2.1) (x2 := s.2.2.1) (x3 := s.2.2.2) (r := o.1) (h' := o.2) hkf
  exact h10 hk h9
set_option maxHeartbeats 1000000 in
set_option maxRecDepth 100000 in
theorem KMd_goFirm_b26 {ω : Wd} {z : Nat → Prop} {d0 : Nat} {kf : Hp × Int × Int → Option (Int × Hp)}  {h h' : Hp} {x0 x2 r : Int} (hkf : ∀ s o, kf s = some o → CtB ω N_Md_goFirm d0 [aV ω s.2.1, iV s.2.2] z s.1 none o.2) (hL : Md_goFirm_b26 kf h x0 x2 = some (r, h')) : EvB ω N_Md_goFirm (d0 + 5) (QB none z h') z h 26 [some (aV ω x0), none, some (iV x2), none] [] := by
  unfold Md_goFirm_b26 at hL
  refine ev_iload_n (pc := 26) (i := 2) dX10_goFirm_26 rfl rfl ?_
  refine ev_aload_n (pc := 27) (i := 0) dX10_goFirm_27 rfl rfl ?_
  obtain ⟨hs3, hL⟩ := cC_un hL
  refine ev_get (pc := 28) (c9 := 10) (k9 := 26) dX10_goFirm_28 fl_Md_294 (by decide) hs3 gv10_26 ?_
  refine ev_icmp_ne (pc := 31) (tgt := 72) dX10_goFirm_31 rfl hL rfl (fun hL => ?_) (fun hL => ?_)
  · refine ev_aload_n (pc := 34) (i := 0) dX10_goFirm_34 rfl rfl ?_
    obtain ⟨r4, h5, hc6, hL⟩ := cl_un hL
    refine evB_callV_I (pc := 35) (M_Md_isFirm hc6) dX10_goFirm_35 mt_Md_isFirm st_Md_isFirm ml_Md_463 hs3 (by decide) ⟨_, rfl, rfl⟩ (by omega) rfl rfl (Nat.le_trans sm_z (by decide)) ?_
    refine ev_if_ne (pc := 38) (tgt := 42) dX10_goFirm_38 rfl hL rfl (fun hL => ?_) (fun hL => ?_)
    · exact evB_vret (pc := 41) dX10_goFirm_41 rfl hL
    · refine ev_aload_n (pc := 42) (i := 0) dX10_goFirm_42 rfl rfl ?_
      refine ev_get (pc := 43) (c9 := 10) (k9 := 46) dX10_goFirm_43 fl_Md_466 (by decide) hs3 gv10_46 ?_
      refine ev_aload_n (pc := 46) (i := 0) dX10_goFirm_46 rfl rfl ?_
      refine ev_get (pc := 47) (c9 := 10) (k9 := 47) dX10_goFirm_47 fl_Md_469 (by decide) hs3 gv10_47 ?_
      refine ev_icmp_ne (pc := 50) (tgt := 61) dX10_goFirm_50 rfl hL rfl (fun hL => ?_) (fun hL => ?_)
      · refine ev_aload_n (pc := 53) (i := 0) dX10_goFirm_53 rfl rfl ?_
        refine ev_aload_n (pc := 54) (i := 0) dX10_goFirm_54 rfl rfl ?_
        obtain ⟨r7, h8, hc9, hL⟩ := cl_un hL
        refine evB_callV_I (pc := 55) (M_Md_rowOf hc9) dX10_goFirm_55 mt_Md_rowOf st_Md_rowOf ml_Md_439 hs3 (by decide) ⟨_, rfl, rfl⟩ (by omega) rfl rfl (Nat.le_trans (sm_1 (cat_aV _ _) sm_z) (by decide)) ?_
        refine evB_putI (pc := 58) (c9 := 10) (k9 := 48) (kI := 48) dX10_goFirm_58 fl_Md_472 hs3 (by decide) (fun q hq => by cases hq; rfl) rfl rfl rfl ?_
        refine ev_puG hL (fun h10 hL => ?_)
        exact ev_le (lvle_s (lvle_n (lvle_n (lvle_n lvle_z)))) (KMd_goFirm_b61 hkf hL)
      · exact ev_le (lvle_s (lvle_n (lvle_n (lvle_n lvle_z)))) (KMd_goFirm_b61 hkf hL)
  · refine ev_iload_n (pc := 72) (i := 2) dX10_goFirm_72 rfl rfl ?_
    refine ev_iconst (pc := 73) dX10_goFirm_73 ?_
    refine ev_iadd (pc := 74) dX10_goFirm_74 ?_
    refine ev_bdI hL (fun v13 hL => ?_)
    refine ev_istore_n (pc := 75) (i := 3) dX10_goFirm_75 rfl (lnl_v rfl rfl) (Nat.le_of_ble_eq_true rfl) ?_
    exact ev_le (lvle_s (lvle_n (lvle_s (lvle_s lvle_z)))) (KMd_goFirm_b76 hkf hL)
set_option maxHeartbeats 1000000 in
set_option maxRecDepth 100000 in
theorem KMd_goFirm_b2_body {ω : Wd} {z : Nat → Prop} {d0 : Nat} {kf : Hp × Int × Int → Option (Int × Hp)}  {k2 : Hp × Int × Int → Option (Int × Hp)} {h h' : Hp} {x0 x2 r : Int} (hkf : ∀ s o, kf s = some o → CtB ω N_Md_goFirm d0 [aV ω s.2.1, iV s.2.2] z s.1 none o.2) (hk2 : ∀ s o, k2 s = some o → EvB ω N_Md_goFirm (d0 + 5) (QB none z o.2) z s.1 2 [some (aV ω s.2.1), none, some (iV s.2.2), none] []) (hL : Md_goFirm_b2_body kf k2 h x0 x2 = some (r, h')) : EvB ω N_Md_goFirm (d0 + 5) (QB none z h') z h 2 [some (aV ω x0), none, some (iV x2), none] [] := by
  unfold Md_goFirm_b2_body at hL
  refine ev_iload_n (pc := 2) (i := 2) dX10_goFirm_2 rfl rfl ?_
  refine ev_aload_n (pc := 3) (i := 0) dX10_goFirm_3 rfl rfl ?_
  obtain ⟨hs1, hL⟩ := cC_un hL
  refine ev_get (pc := 4) (c9 := 10) (k9 := 26) dX10_goFirm_4 fl_Md_294 (by decide) hs1 gv10_26 ?_
  refine ev_icmp_ge (pc := 7) (tgt := 26) dX10_goFirm_7 rfl hL rfl (fun hL => ?_) (fun hL => ?_)
  · refine ev_aload_n (pc := 10) (i := 0) dX10_goFirm_10 rfl rfl ?_
    refine ev_get (pc := 11) (c9 := 10) (k9 := 38) dX10_goFirm_11 fl_Md_81 (by decide) hs1 (gv10_38 hs1) ?_
    refine ev_iload_n (pc := 14) (i := 2) dX10_goFirm_14 rfl rfl ?_
    obtain ⟨q2a, q2b, q2c, hL⟩ := cX_un hL
    refine ev_iald (pc := 15) dX10_goFirm_15 q2a q2b q2c ?_
    refine ev_iconst (pc := 16) dX10_goFirm_16 ?_
    refine ev_icmp_eq (pc := 17) (tgt := 26) dX10_goFirm_17 rfl hL rfl (fun hL => ?_) (fun hL => ?_)
    · exact ev_le (lvle_s (lvle_n (lvle_s (lvle_n lvle_z)))) (KMd_goFirm_b26 hkf hL)
    · refine ev_iinc (pc := 20) dX10_goFirm_20 rfl (lnl_n rfl) (Nat.le_of_ble_eq_true rfl) ?_
      refine ev_goto (pc := 23) (tgt := 2) dX10_goFirm_23 rfl ?_
      exact ev_le (lvle_s (lvle_n (lvle_s (lvle_n lvle_z)))) (hk2 _ _ hL)
  · exact ev_le (lvle_s (lvle_n (lvle_s (lvle_n lvle_z)))) (KMd_goFirm_b26 hkf hL)
set_option maxHeartbeats 1000000 in
set_option maxRecDepth 100000 in
theorem KMd_goFirm_b2 {ω : Wd} {z : Nat → Prop} {d0 : Nat} {kf : Hp × Int × Int → Option (Int × Hp)}  {h h' : Hp} {x0 x2 r : Int} (hkf : ∀ s o, kf s = some o → CtB ω N_Md_goFirm d0 [aV ω s.2.1, iV s.2.2] z s.1 none o.2) (hL : Md_goFirm_b2 kf h x0 x2 = some (r, h')) : EvB ω N_Md_goFirm (d0 + 5) (QB none z h') z h 2 [some (aV ω x0), none, some (iV x2), none] [] := by
  unfold Md_goFirm_b2 at hL
  refine itr_link (P := fun (s : Hp × Int × Int) (o : Int × Hp) => EvB ω N_Md_goFirm (d0 + 5) (QB none z o.2) z s.1 2 [some (aV ω s.2.1), none, some (iV s.2.2), none] []) ?_ _ _ _ hL
  intro k hk s o h9
  have h10 := KMd_goFirm_b2_body (ω := ω) (z := z) (d0 := d0) (kf := kf) (k2 := k) (h := s.1) (x0 := s.2.1) (x2 := s.2.2) (r := o.1) (h' := o.2) hkf
  exact h10 hk h9
set_option maxHeartbeats 1000000 in
set_option maxRecDepth 100000 in
theorem MB_Md_goFirm {ω : Wd} {z : Nat → Prop} {d0 : Nat} {kf : Hp × Int × Int → Option (Int × Hp)} {h h' : Hp} {a0 a1 r : Int} (hkf : ∀ s o, kf s = some o → CtB ω N_Md_goFirm d0 [aV ω s.2.1, iV s.2.2] z s.1 none o.2) (hL : Md_goFirm_body kf h a0 a1 = some (r, h')) : CtB ω N_Md_goFirm (d0 + 5) [aV ω a0, iV a1] z h none h' := by
  unfold Md_goFirm_body at hL
  refine Ct_of (lv := [some (aV ω a0), some (iV a1), none, none]) (by decide) (Nat.le_trans (sl_1 (cat_aV _ _) (sl_1 (cat_iV _) sl_z)) (Nat.le_of_ble_eq_true rfl)) (la_1 (cat_aV _ _) (la_1 (cat_iV _) (la_n (la_n la_z)))) ?_
  refine ev_iload_n (pc := 0) (i := 1) dX10_goFirm_0 rfl rfl ?_
  refine ev_istore_n (pc := 1) (i := 2) dX10_goFirm_1 rfl (lnl_v rfl rfl) (Nat.le_of_ble_eq_true rfl) ?_
  exact ev_le (lvle_s (lvle_n (lvle_s (lvle_n lvle_z)))) (KMd_goFirm_b2 hkf hL)
set_option maxHeartbeats 1000000 in
set_option maxRecDepth 100000 in
theorem MR_Md_goFirm {ω : Wd} {z : Nat → Prop} : ∀ (n : Nat) (s : Hp × Int × Int) (o : Int × Hp), itr (fun k s => Md_goFirm_body k s.1 s.2.1 s.2.2) n s = some o → CtB ω N_Md_goFirm (n * 5) [aV ω s.2.1, iV s.2.2] z s.1 none o.2 := by
  refine itr_rec (P := fun (n : Nat) (s : Hp × Int × Int) (o : Int × Hp) => CtB ω N_Md_goFirm (n * 5) [aV ω s.2.1, iV s.2.2] z s.1 none o.2) (fun n k hk s o h9 => ?_)
  have := MB_Md_goFirm (ω := ω) (z := z) (h := s.1) (a0 := s.2.1) (a1 := s.2.2) (r := o.1) (h' := o.2) hk h9
  rwa [show n * 5 + 5 = (n + 1) * 5 from by omega] at this
set_option maxHeartbeats 1000000 in
set_option maxRecDepth 100000 in
theorem M_Md_goFirm {ω : Wd} {z : Nat → Prop} {h h' : Hp} {a0 a1 r : Int} (hL : Md_goFirm h a0 a1 = some (r, h')) : CtB ω N_Md_goFirm 60 [aV ω a0, iV a1] z h none h' := by
  unfold Md_goFirm Md_goFirm_f at hL
  exact MR_Md_goFirm RF (h, a0, a1) (r, h') hL
set_option maxHeartbeats 1000000 in
set_option maxRecDepth 100000 in
theorem KMd_firm_b21_body {ω : Wd} {z : Nat → Prop}  {k21 : Hp × Int × Int × Int → Option (Int × Hp)} {h h' : Hp} {x0 x1 x2 r : Int}  (hk21 : ∀ s o, k21 s = some o → EvB ω N_Md_firm 61 (QB (some (iV o.1)) z o.2) z s.1 21 [some (aV ω s.2.1), some (iV s.2.2.1), some (iV s.2.2.2)] []) (hL : Md_firm_b21_body  k21 h x0 x1 x2 = some (r, h')) : EvB ω N_Md_firm 61 (QB (some (iV r)) z h') z h 21 [some (aV ω x0), some (iV x1), some (iV x2)] [] := by
  unfold Md_firm_b21_body at hL
  refine ev_iload_n (pc := 21) (i := 2) dX10_firm_21 rfl rfl ?_
  refine ev_bipush (pc := 22) dX10_firm_22 (by decide) ?_
  refine ev_icmp_ge (pc := 24) (tgt := 40) dX10_firm_24 rfl hL rfl (fun hL => ?_) (fun hL => ?_)
  · refine ev_aload_n (pc := 27) (i := 0) dX10_firm_27 rfl rfl ?_
    obtain ⟨hs3, hL⟩ := cC_un hL
    refine ev_get (pc := 28) (c9 := 10) (k9 := 38) dX10_firm_28 fl_Md_81 (by decide) hs3 (gv10_38 hs3) ?_
    refine ev_iload_n (pc := 31) (i := 2) dX10_firm_31 rfl rfl ?_
    refine ev_iconst (pc := 32) dX10_firm_32 ?_
    obtain ⟨q4a, q4d, q4b, q4c, hL⟩ := cY_un hL
    refine ev_iast (pc := 33) dX10_firm_33 q4a q4d q4b q4c ?_
    refine ev_puG hL (fun h5 hL => ?_)
    refine ev_iinc (pc := 34) dX10_firm_34 rfl (lnl_v rfl rfl) (Nat.le_of_ble_eq_true rfl) ?_
    refine ev_goto (pc := 37) (tgt := 21) dX10_firm_37 rfl ?_
    exact ev_le (lvle_s (lvle_s (lvle_s lvle_z))) (hk21 _ _ hL)
  · refine ev_aload_n (pc := 40) (i := 0) dX10_firm_40 rfl rfl ?_
    refine ev_iconst (pc := 41) dX10_firm_41 ?_
    obtain ⟨hs6, hL⟩ := cC_un hL
    refine evB_putI (pc := 42) (c9 := 10) (k9 := 46) (kI := 46) dX10_firm_42 fl_Md_466 hs6 (by decide) (fun q hq => by cases hq; rfl) rfl rfl rfl ?_
    refine ev_puG hL (fun h7 hL => ?_)
    refine ev_aload_n (pc := 45) (i := 0) dX10_firm_45 rfl rfl ?_
    refine ev_iload_n (pc := 46) (i := 1) dX10_firm_46 rfl rfl ?_
    refine evB_putI (pc := 47) (c9 := 10) (k9 := 47) (kI := 47) dX10_firm_47 fl_Md_469 hs6 (by decide) (fun q hq => by cases hq; rfl) rfl rfl rfl ?_
    refine ev_puG hL (fun h8 hL => ?_)
    refine ev_aload_n (pc := 50) (i := 0) dX10_firm_50 rfl rfl ?_
    refine ev_iconst (pc := 51) dX10_firm_51 ?_
    refine evB_putI (pc := 52) (c9 := 10) (k9 := 48) (kI := 48) dX10_firm_52 fl_Md_472 hs6 (by decide) (fun q hq => by cases hq; rfl) rfl rfl rfl ?_
    refine ev_puG hL (fun h9 hL => ?_)
    refine ev_aload_n (pc := 55) (i := 0) dX10_firm_55 rfl rfl ?_
    refine ev_iconst (pc := 56) dX10_firm_56 ?_
    obtain ⟨r10, h11, hc12, hL⟩ := cl_un hL
    refine evB_callV_V (pc := 57) (M_Md_goFirm hc12) dX10_firm_57 mt_Md_goFirm st_Md_goFirm ml_Md_475 hs6 (by decide) ⟨_, rfl, rfl⟩ (Nat.le_of_ble_eq_true rfl) rfl rfl (Nat.le_trans sm_z (by decide)) ?_
    refine ev_iload_n (pc := 60) (i := 1) dX10_firm_60 rfl rfl ?_
    refine ev_iconst (pc := 61) dX10_firm_61 ?_
    refine ev_icmp_ne (pc := 62) (tgt := 72) dX10_firm_62 rfl hL rfl (fun hL => ?_) (fun hL => ?_)
    · refine ev_aload_n (pc := 65) (i := 0) dX10_firm_65 rfl rfl ?_
      refine ev_get (pc := 66) (c9 := 10) (k9 := 46) dX10_firm_66 fl_Md_466 (by decide) hs6 gv10_46 ?_
      refine ev_goto (pc := 69) (tgt := 76) dX10_firm_69 rfl ?_
      exact evB_iret (pc := 76) dX10_firm_76 rfl hL
    · refine ev_aload_n (pc := 72) (i := 0) dX10_firm_72 rfl rfl ?_
      refine ev_get (pc := 73) (c9 := 10) (k9 := 48) dX10_firm_73 fl_Md_472 (by decide) hs6 gv10_48 ?_
      exact evB_iret (pc := 76) dX10_firm_76 rfl hL
set_option maxHeartbeats 1000000 in
set_option maxRecDepth 100000 in
theorem KMd_firm_b21 {ω : Wd} {z : Nat → Prop}  {h h' : Hp} {x0 x1 x2 r : Int}  (hL : Md_firm_b21 h x0 x1 x2 = some (r, h')) : EvB ω N_Md_firm 61 (QB (some (iV r)) z h') z h 21 [some (aV ω x0), some (iV x1), some (iV x2)] [] := by
  unfold Md_firm_b21 at hL
  refine itr_link (P := fun (s : Hp × Int × Int × Int) (o : Int × Hp) => EvB ω N_Md_firm 61 (QB (some (iV o.1)) z o.2) z s.1 21 [some (aV ω s.2.1), some (iV s.2.2.1), some (iV s.2.2.2)] []) ?_ _ _ _ hL
  intro k hk s o h9
  have h10 := KMd_firm_b21_body (ω := ω) (z := z) (k21 := k) (h := s.1) (x0 := s.2.1) (x1 := s.2.2.1) (x2 := s.2.2.2) (r := o.1) (h' := o.2) 
  exact h10 hk h9
set_option maxHeartbeats 1000000 in
set_option maxRecDepth 100000 in
theorem M_Md_firm {ω : Wd} {z : Nat → Prop} {h h' : Hp} {a0 a1 r : Int}  (hL : Md_firm h a0 a1 = some (r, h')) : CtB ω N_Md_firm 61 [aV ω a0, iV a1] z h (some (iV r)) h' := by
  unfold Md_firm at hL
  refine Ct_of (lv := [some (aV ω a0), some (iV a1), none]) (by decide) (Nat.le_trans (sl_1 (cat_aV _ _) (sl_1 (cat_iV _) sl_z)) (Nat.le_of_ble_eq_true rfl)) (la_1 (cat_aV _ _) (la_1 (cat_iV _) (la_n la_z))) ?_
  refine ev_aload_n (pc := 0) (i := 0) dX10_firm_0 rfl rfl ?_
  refine ev_iconst (pc := 1) dX10_firm_1 ?_
  obtain ⟨hs1, hL⟩ := cC_un hL
  refine evB_putI (pc := 2) (c9 := 10) (k9 := 0) (kI := 0) dX10_firm_2 fl_Md_96 hs1 (by decide) (fun q hq => by cases hq; rfl) rfl rfl rfl ?_
  refine ev_puG hL (fun h2 hL => ?_)
  refine ev_aload_n (pc := 5) (i := 0) dX10_firm_5 rfl rfl ?_
  refine ev_get (pc := 6) (c9 := 10) (k9 := 26) dX10_firm_6 fl_Md_294 (by decide) hs1 gv10_26 ?_
  refine ev_if_eq (pc := 9) (tgt := 17) dX10_firm_9 rfl hL rfl (fun hL => ?_) (fun hL => ?_)
  · refine ev_iconst (pc := 17) dX10_firm_17 ?_
    exact evB_iret (pc := 18) dX10_firm_18 rfl hL
  · refine ev_iload_n (pc := 12) (i := 1) dX10_firm_12 rfl rfl ?_
    refine ev_iconst (pc := 13) dX10_firm_13 ?_
    refine ev_icmp_ge (pc := 14) (tgt := 19) dX10_firm_14 rfl hL rfl (fun hL => ?_) (fun hL => ?_)
    · refine ev_iconst (pc := 17) dX10_firm_17 ?_
      exact evB_iret (pc := 18) dX10_firm_18 rfl hL
    · refine ev_iconst (pc := 19) dX10_firm_19 ?_
      refine ev_istore_n (pc := 20) (i := 2) dX10_firm_20 rfl (lnl_v rfl rfl) (Nat.le_of_ble_eq_true rfl) ?_
      exact ev_le (lvle_s (lvle_s (lvle_s lvle_z))) (KMd_firm_b21  hL)
set_option maxHeartbeats 1000000 in
set_option maxRecDepth 100000 in
theorem KMd_gameOf_b65 {ω : Wd} {z : Nat → Prop}  {h h' : Hp} {x1 x2 x3 x4 x8 r : Int}  (hL : Md_gameOf_b65 h x1 x2 x3 x4 x8 = some (r, h')) : EvB ω N_Md_gameOf 3 (QB (some (iV r)) z h') z h 65 [none, some (iV x1), some (iV x2), some (iV x3), some (iV x4), none, none, none, some (iV x8)] [] := by
  unfold Md_gameOf_b65 at hL
  refine ev_iload_n (pc := 65) (i := 3) dX10_gameOf_65 rfl rfl ?_
  refine ev_iload_n (pc := 66) (i := 2) dX10_gameOf_66 rfl rfl ?_
  refine ev_icmp_ne (pc := 67) (tgt := 83) dX10_gameOf_67 rfl hL rfl (fun hL => ?_) (fun hL => ?_)
  · refine ev_iload (pc := 70) dX10_gameOf_70 rfl ?_
    refine ev_iload_n (pc := 72) (i := 1) dX10_gameOf_72 rfl rfl ?_
    refine ev_icmp_ne (pc := 73) (tgt := 83) dX10_gameOf_73 rfl hL rfl (fun hL => ?_) (fun hL => ?_)
    · refine ev_iload (pc := 76) dX10_gameOf_76 rfl ?_
      refine ev_iconst (pc := 78) dX10_gameOf_78 ?_
      refine ev_iadd (pc := 79) dX10_gameOf_79 ?_
      refine ev_goto (pc := 80) (tgt := 85) dX10_gameOf_80 rfl ?_
      exact evB_iret (pc := 85) dX10_gameOf_85 rfl hL
    · refine ev_iload (pc := 83) dX10_gameOf_83 rfl ?_
      exact evB_iret (pc := 85) dX10_gameOf_85 rfl hL
  · refine ev_iload (pc := 83) dX10_gameOf_83 rfl ?_
    exact evB_iret (pc := 85) dX10_gameOf_85 rfl hL
set_option maxHeartbeats 1000000 in
set_option maxRecDepth 100000 in
theorem KMd_gameOf_b54 {ω : Wd} {z : Nat → Prop}  {h h' : Hp} {x1 x2 x3 x4 y0 r : Int}  (hL : Md_gameOf_b54 h x1 x2 x3 x4 y0 = some (r, h')) : EvB ω N_Md_gameOf 3 (QB (some (iV r)) z h') z h 54 [none, some (iV x1), some (iV x2), some (iV x3), some (iV x4), none, none, none, none] [iV y0] := by
  unfold Md_gameOf_b54 at hL
  refine ev_istore (pc := 54) dX10_gameOf_54 (lnl_n rfl) (Nat.le_of_ble_eq_true rfl) ?_
  refine ev_iload_n (pc := 56) (i := 3) dX10_gameOf_56 rfl rfl ?_
  refine ev_iload (pc := 57) dX10_gameOf_57 rfl ?_
  refine ev_icmp_ne (pc := 59) (tgt := 65) dX10_gameOf_59 rfl hL rfl (fun hL => ?_) (fun hL => ?_)
  · refine ev_iinc (pc := 62) dX10_gameOf_62 rfl (lnl_n rfl) (Nat.le_of_ble_eq_true rfl) ?_
    exact ev_le (lvle_n (lvle_s (lvle_s (lvle_s (lvle_s (lvle_n (lvle_n (lvle_n (lvle_s lvle_z))))))))) (KMd_gameOf_b65  hL)
  · exact ev_le (lvle_n (lvle_s (lvle_s (lvle_s (lvle_s (lvle_n (lvle_n (lvle_n (lvle_s lvle_z))))))))) (KMd_gameOf_b65  hL)
set_option maxHeartbeats 1000000 in
set_option maxRecDepth 100000 in
theorem KMd_gameOf_b23 {ω : Wd} {z : Nat → Prop}  {h h' : Hp} {x0 x1 x2 x3 x4 x6 y0 r : Int}  (hL : Md_gameOf_b23 h x0 x1 x2 x3 x4 x6 y0 = some (r, h')) : EvB ω N_Md_gameOf 3 (QB (some (iV r)) z h') z h 23 [some (aV ω x0), some (iV x1), some (iV x2), some (iV x3), some (iV x4), none, some (iV x6), none, none] [iV y0] := by
  unfold Md_gameOf_b23 at hL
  refine ev_istore (pc := 23) dX10_gameOf_23 (lnl_v rfl rfl) (Nat.le_of_ble_eq_true rfl) ?_
  refine ev_iload (pc := 25) dX10_gameOf_25 rfl ?_
  refine ev_iload (pc := 27) dX10_gameOf_27 rfl ?_
  refine ev_icmp_eq (pc := 29) (tgt := 41) dX10_gameOf_29 rfl hL rfl (fun hL => ?_) (fun hL => ?_)
  · refine ev_bipush (pc := 41) dX10_gameOf_41 (by decide) ?_
    refine ev_goto (pc := 43) (tgt := 54) dX10_gameOf_43 rfl ?_
    exact ev_le (lvle_n (lvle_s (lvle_s (lvle_s (lvle_s (lvle_n (lvle_n (lvle_n (lvle_n lvle_z))))))))) (KMd_gameOf_b54  hL)
  · refine ev_aload_n (pc := 32) (i := 0) dX10_gameOf_32 rfl rfl ?_
    refine ev_iload (pc := 33) dX10_gameOf_33 rfl ?_
    obtain ⟨hs1, hL⟩ := cC_un hL
    obtain ⟨r2, h3, hc4, hL⟩ := cl_un hL
    refine evB_callV_I (pc := 35) (M_Md_isPerson hc4) dX10_gameOf_35 mt_Md_isPerson st_Md_isPerson ml_Md_309 hs1 (by decide) ⟨_, rfl, rfl⟩ (Nat.le_of_ble_eq_true rfl) rfl rfl (Nat.le_trans sm_z (by decide)) ?_
    refine ev_if_ne (pc := 38) (tgt := 46) dX10_gameOf_38 rfl hL rfl (fun hL => ?_) (fun hL => ?_)
    · refine ev_bipush (pc := 41) dX10_gameOf_41 (by decide) ?_
      refine ev_goto (pc := 43) (tgt := 54) dX10_gameOf_43 rfl ?_
      exact ev_le (lvle_n (lvle_s (lvle_s (lvle_s (lvle_s (lvle_n (lvle_n (lvle_n (lvle_n lvle_z))))))))) (KMd_gameOf_b54  hL)
    · refine ev_aload_n (pc := 46) (i := 0) dX10_gameOf_46 rfl rfl ?_
      refine ev_iload (pc := 47) dX10_gameOf_47 rfl ?_
      refine ev_iload (pc := 49) dX10_gameOf_49 rfl ?_
      obtain ⟨r5, h6, hc7, hL⟩ := cl_un hL
      refine evB_callV_I (pc := 51) (M_Md_liking hc7) dX10_gameOf_51 mt_Md_liking st_Md_liking ml_Md_457 hs1 (by decide) ⟨_, rfl, rfl⟩ (Nat.le_of_ble_eq_true rfl) rfl rfl (Nat.le_trans sm_z (by decide)) ?_
      exact ev_le (lvle_n (lvle_s (lvle_s (lvle_s (lvle_s (lvle_n (lvle_n (lvle_n (lvle_n lvle_z))))))))) (KMd_gameOf_b54  hL)
set_option maxHeartbeats 1000000 in
set_option maxRecDepth 100000 in
theorem KMd_gameOf_b10 {ω : Wd} {z : Nat → Prop}  {h h' : Hp} {x0 x1 x2 x3 x4 x5 y0 r : Int}  (hL : Md_gameOf_b10 h x0 x1 x2 x3 x4 x5 y0 = some (r, h')) : EvB ω N_Md_gameOf 3 (QB (some (iV r)) z h') z h 10 [some (aV ω x0), some (iV x1), some (iV x2), some (iV x3), some (iV x4), some (iV x5), none, none, none] [iV y0] := by
  unfold Md_gameOf_b10 at hL
  refine ev_istore (pc := 10) dX10_gameOf_10 (lnl_v rfl rfl) (Nat.le_of_ble_eq_true rfl) ?_
  refine ev_iload (pc := 12) dX10_gameOf_12 rfl ?_
  refine ev_if_ne (pc := 14) (tgt := 21) dX10_gameOf_14 rfl hL rfl (fun hL => ?_) (fun hL => ?_)
  · refine ev_iload_n (pc := 17) (i := 3) dX10_gameOf_17 rfl rfl ?_
    refine ev_goto (pc := 18) (tgt := 23) dX10_gameOf_18 rfl ?_
    exact ev_le (lvle_s (lvle_s (lvle_s (lvle_s (lvle_s (lvle_n (lvle_s (lvle_n (lvle_n lvle_z))))))))) (KMd_gameOf_b23  hL)
  · refine ev_iload (pc := 21) dX10_gameOf_21 rfl ?_
    exact ev_le (lvle_s (lvle_s (lvle_s (lvle_s (lvle_s (lvle_n (lvle_s (lvle_n (lvle_n lvle_z))))))))) (KMd_gameOf_b23  hL)
set_option maxHeartbeats 1000000 in
set_option maxRecDepth 100000 in
theorem M_Md_gameOf {ω : Wd} {z : Nat → Prop} {h h' : Hp} {a0 a1 a2 a3 a4 a5 r : Int}  (hL : Md_gameOf h a0 a1 a2 a3 a4 a5 = some (r, h')) : CtB ω N_Md_gameOf 3 [aV ω a0, iV a1, iV a2, iV a3, iV a4, iV a5] z h (some (iV r)) h' := by
  unfold Md_gameOf at hL
  refine Ct_of (lv := [some (aV ω a0), some (iV a1), some (iV a2), some (iV a3), some (iV a4), some (iV a5), none, none, none]) (by decide) (Nat.le_trans (sl_1 (cat_aV _ _) (sl_1 (cat_iV _) (sl_1 (cat_iV _) (sl_1 (cat_iV _) (sl_1 (cat_iV _) (sl_1 (cat_iV _) sl_z)))))) (Nat.le_of_ble_eq_true rfl)) (la_1 (cat_aV _ _) (la_1 (cat_iV _) (la_1 (cat_iV _) (la_1 (cat_iV _) (la_1 (cat_iV _) (la_1 (cat_iV _) (la_n (la_n (la_n la_z))))))))) ?_
  refine ev_iload (pc := 0) dX10_gameOf_0 rfl ?_
  refine ev_if_ne (pc := 2) (tgt := 9) dX10_gameOf_2 rfl hL rfl (fun hL => ?_) (fun hL => ?_)
  · refine ev_iload_n (pc := 5) (i := 1) dX10_gameOf_5 rfl rfl ?_
    refine ev_goto (pc := 6) (tgt := 10) dX10_gameOf_6 rfl ?_
    exact ev_le (lvle_s (lvle_s (lvle_s (lvle_s (lvle_s (lvle_s (lvle_n (lvle_n (lvle_n lvle_z))))))))) (KMd_gameOf_b10  hL)
  · refine ev_iload_n (pc := 9) (i := 2) dX10_gameOf_9 rfl rfl ?_
    exact ev_le (lvle_s (lvle_s (lvle_s (lvle_s (lvle_s (lvle_s (lvle_n (lvle_n (lvle_n lvle_z))))))))) (KMd_gameOf_b10  hL)
set_option maxHeartbeats 1000000 in
set_option maxRecDepth 100000 in
theorem M_Md_game {ω : Wd} {z : Nat → Prop} {h h' : Hp} {a0 a1 a2 a3 a4 a5 r : Int}  (hL : Md_game h a0 a1 a2 a3 a4 a5 = some (r, h')) : CtB ω N_Md_game 4 [aV ω a0, iV a1, iV a2, iV a3, iV a4, iV a5] z h (some (iV r)) h' := by
  unfold Md_game at hL
  refine Ct_of (lv := [some (aV ω a0), some (iV a1), some (iV a2), some (iV a3), some (iV a4), some (iV a5)]) (by decide) (Nat.le_trans (sl_1 (cat_aV _ _) (sl_1 (cat_iV _) (sl_1 (cat_iV _) (sl_1 (cat_iV _) (sl_1 (cat_iV _) (sl_1 (cat_iV _) sl_z)))))) (Nat.le_of_ble_eq_true rfl)) (la_1 (cat_aV _ _) (la_1 (cat_iV _) (la_1 (cat_iV _) (la_1 (cat_iV _) (la_1 (cat_iV _) (la_1 (cat_iV _) la_z)))))) ?_
  refine ev_aload_n (pc := 0) (i := 0) dX10_game_0 rfl rfl ?_
  refine ev_iconst (pc := 1) dX10_game_1 ?_
  obtain ⟨hs1, hL⟩ := cC_un hL
  refine evB_putI (pc := 2) (c9 := 10) (k9 := 0) (kI := 0) dX10_game_2 fl_Md_96 hs1 (by decide) (fun q hq => by cases hq; rfl) rfl rfl rfl ?_
  refine ev_puG hL (fun h2 hL => ?_)
  refine ev_aload_n (pc := 5) (i := 0) dX10_game_5 rfl rfl ?_
  refine ev_iload_n (pc := 6) (i := 1) dX10_game_6 rfl rfl ?_
  refine ev_iload_n (pc := 7) (i := 2) dX10_game_7 rfl rfl ?_
  obtain ⟨r3, h4, hc5, hL⟩ := cl_un hL
  refine evB_callV_I (pc := 8) (M_Md_areTwo hc5) dX10_game_8 mt_Md_areTwo st_Md_areTwo ml_Md_393 hs1 (by decide) ⟨_, rfl, rfl⟩ (Nat.le_of_ble_eq_true rfl) rfl rfl (Nat.le_trans sm_z (by decide)) ?_
  refine ev_if_eq (pc := 11) (tgt := 64) dX10_game_11 rfl hL rfl (fun hL => ?_) (fun hL => ?_)
  · refine ev_ldc_w (pc := 64) (x := (-1000000)) dX10_game_64 w_c_Md_428 ?_
    exact evB_iret (pc := 67) dX10_game_67 rfl hL
  · refine ev_iload_n (pc := 14) (i := 3) dX10_game_14 rfl rfl ?_
    refine ev_i2l (pc := 15) dX10_game_15 ?_
    refine ev_lconst (pc := 16) (x := 0) dX10_game_16 rfl ?_
    refine ev_ldc2 (pc := 17) (x := 5) dX10_game_17 w_l_Md_487 ?_
    obtain ⟨r6, h7, hc8, hL⟩ := cl_un hL
    refine evB_callS_I (pc := 20) (M_Md_isIn hc8) dX10_game_20 mt_Md_isIn st_Md_isIn ml_Md_217 (Nat.le_of_ble_eq_true rfl) rfl rfl (Nat.le_trans sm_z (by decide)) ?_
    refine ev_if_eq (pc := 23) (tgt := 64) dX10_game_23 rfl hL rfl (fun hL => ?_) (fun hL => ?_)
    · refine ev_ldc_w (pc := 64) (x := (-1000000)) dX10_game_64 w_c_Md_428 ?_
      exact evB_iret (pc := 67) dX10_game_67 rfl hL
    · refine ev_iload (pc := 26) dX10_game_26 rfl ?_
      refine ev_i2l (pc := 28) dX10_game_28 ?_
      refine ev_lconst (pc := 29) (x := 0) dX10_game_29 rfl ?_
      refine ev_ldc2 (pc := 30) (x := 5) dX10_game_30 w_l_Md_487 ?_
      obtain ⟨r9, h10, hc11, hL⟩ := cl_un hL
      refine evB_callS_I (pc := 33) (M_Md_isIn hc11) dX10_game_33 mt_Md_isIn st_Md_isIn ml_Md_217 (Nat.le_of_ble_eq_true rfl) rfl rfl (Nat.le_trans sm_z (by decide)) ?_
      refine ev_if_eq (pc := 36) (tgt := 64) dX10_game_36 rfl hL rfl (fun hL => ?_) (fun hL => ?_)
      · refine ev_ldc_w (pc := 64) (x := (-1000000)) dX10_game_64 w_c_Md_428 ?_
        exact evB_iret (pc := 67) dX10_game_67 rfl hL
      · refine ev_iload (pc := 39) dX10_game_39 rfl ?_
        refine ev_i2l (pc := 41) dX10_game_41 ?_
        refine ev_lconst (pc := 42) (x := 0) dX10_game_42 rfl ?_
        refine ev_lconst (pc := 43) (x := 1) dX10_game_43 rfl ?_
        obtain ⟨r12, h13, hc14, hL⟩ := cl_un hL
        refine evB_callS_I (pc := 44) (M_Md_isIn hc14) dX10_game_44 mt_Md_isIn st_Md_isIn ml_Md_217 (Nat.le_of_ble_eq_true rfl) rfl rfl (Nat.le_trans sm_z (by decide)) ?_
        refine ev_if_eq (pc := 47) (tgt := 64) dX10_game_47 rfl hL rfl (fun hL => ?_) (fun hL => ?_)
        · refine ev_ldc_w (pc := 64) (x := (-1000000)) dX10_game_64 w_c_Md_428 ?_
          exact evB_iret (pc := 67) dX10_game_67 rfl hL
        · refine ev_aload_n (pc := 50) (i := 0) dX10_game_50 rfl rfl ?_
          refine ev_iload_n (pc := 51) (i := 1) dX10_game_51 rfl rfl ?_
          refine ev_iload_n (pc := 52) (i := 2) dX10_game_52 rfl rfl ?_
          refine ev_iload_n (pc := 53) (i := 3) dX10_game_53 rfl rfl ?_
          refine ev_iload (pc := 54) dX10_game_54 rfl ?_
          refine ev_iload (pc := 56) dX10_game_56 rfl ?_
          obtain ⟨r15, h16, hc17, hL⟩ := cl_un hL
          refine evB_callV_I (pc := 58) (M_Md_gameOf hc17) dX10_game_58 mt_Md_gameOf st_Md_gameOf ml_Md_489 hs1 (by decide) ⟨_, rfl, rfl⟩ (Nat.le_of_ble_eq_true rfl) rfl rfl (Nat.le_trans sm_z (by decide)) ?_
          refine ev_goto (pc := 61) (tgt := 67) dX10_game_61 rfl ?_
          exact evB_iret (pc := 67) dX10_game_67 rfl hL
set_option maxHeartbeats 1000000 in
set_option maxRecDepth 100000 in
theorem M_Md_give {ω : Wd} {z : Nat → Prop} {h h' : Hp} {a0 a1 r : Int}  (hL : Md_give h a0 a1 = some (r, h')) : CtB ω N_Md_give 2 [aV ω a0, iV a1] z h (some (iV r)) h' := by
  unfold Md_give at hL
  refine Ct_of (lv := [some (aV ω a0), some (iV a1)]) (by decide) (Nat.le_trans (sl_1 (cat_aV _ _) (sl_1 (cat_iV _) sl_z)) (Nat.le_of_ble_eq_true rfl)) (la_1 (cat_aV _ _) (la_1 (cat_iV _) la_z)) ?_
  refine ev_aload_n (pc := 0) (i := 0) dX10_give_0 rfl rfl ?_
  refine ev_iconst (pc := 1) dX10_give_1 ?_
  obtain ⟨hs1, hL⟩ := cC_un hL
  refine evB_putI (pc := 2) (c9 := 10) (k9 := 0) (kI := 0) dX10_give_2 fl_Md_96 hs1 (by decide) (fun q hq => by cases hq; rfl) rfl rfl rfl ?_
  refine ev_puG hL (fun h2 hL => ?_)
  refine ev_aload_n (pc := 5) (i := 0) dX10_give_5 rfl rfl ?_
  refine ev_get (pc := 6) (c9 := 10) (k9 := 26) dX10_give_6 fl_Md_294 (by decide) hs1 gv10_26 ?_
  refine ev_if_eq (pc := 9) (tgt := 39) dX10_give_9 rfl hL rfl (fun hL => ?_) (fun hL => ?_)
  · refine ev_iconst (pc := 39) dX10_give_39 ?_
    exact evB_iret (pc := 40) dX10_give_40 rfl hL
  · refine ev_iload_n (pc := 12) (i := 1) dX10_give_12 rfl rfl ?_
    refine ev_i2l (pc := 13) dX10_give_13 ?_
    refine ev_lconst (pc := 14) (x := 1) dX10_give_14 rfl ?_
    refine ev_ldc2 (pc := 15) (x := 50) dX10_give_15 w_l_Md_410 ?_
    obtain ⟨r3, h4, hc5, hL⟩ := cl_un hL
    refine evB_callS_I (pc := 18) (M_Md_isIn hc5) dX10_give_18 mt_Md_isIn st_Md_isIn ml_Md_217 (Nat.le_of_ble_eq_true rfl) rfl rfl (Nat.le_trans sm_z (by decide)) ?_
    refine ev_if_eq (pc := 21) (tgt := 39) dX10_give_21 rfl hL rfl (fun hL => ?_) (fun hL => ?_)
    · refine ev_iconst (pc := 39) dX10_give_39 ?_
      exact evB_iret (pc := 40) dX10_give_40 rfl hL
    · refine ev_aload_n (pc := 24) (i := 0) dX10_give_24 rfl rfl ?_
      refine ev_get (pc := 25) (c9 := 10) (k9 := 32) dX10_give_25 fl_Md_61 (by decide) hs1 (gv10_32 hs1) ?_
      refine ev_bipush (pc := 28) dX10_give_28 (by decide) ?_
      obtain ⟨q6a, q6b, q6c, hL⟩ := cX_un hL
      refine ev_iald (pc := 30) dX10_give_30 q6a q6b q6c ?_
      refine ev_iload_n (pc := 31) (i := 1) dX10_give_31 rfl rfl ?_
      refine ev_iadd (pc := 32) dX10_give_32 ?_
      refine ev_sipush (pc := 33) dX10_give_33 (by decide) ?_
      refine ev_icmp_le (pc := 36) (tgt := 41) dX10_give_36 rfl hL rfl (fun hL => ?_) (fun hL => ?_)
      · refine ev_iconst (pc := 39) dX10_give_39 ?_
        exact evB_iret (pc := 40) dX10_give_40 rfl hL
      · refine ev_aload_n (pc := 41) (i := 0) dX10_give_41 rfl rfl ?_
        obtain ⟨r7, h8, hc9, hL⟩ := cl_un hL
        refine evB_callV_V (pc := 42) (M_Md_remember hc9) dX10_give_42 mt_Md_remember st_Md_remember ml_Md_384 hs1 (by decide) ⟨_, rfl, rfl⟩ (Nat.le_of_ble_eq_true rfl) rfl rfl (Nat.le_trans sm_z (by decide)) ?_
        refine ev_aload_n (pc := 45) (i := 0) dX10_give_45 rfl rfl ?_
        refine ev_get (pc := 46) (c9 := 10) (k9 := 32) dX10_give_46 fl_Md_61 (by decide) hs1 (gv10_32 hs1) ?_
        refine ev_bipush (pc := 49) dX10_give_49 (by decide) ?_
        refine ev_dup2 (pc := 51) dX10_give_51 rfl (cat_aV _ _) ?_
        obtain ⟨q10a, q10b, q10c, hL⟩ := cX_un hL
        refine ev_iald (pc := 52) dX10_give_52 q10a q10b q10c ?_
        refine ev_iload_n (pc := 53) (i := 1) dX10_give_53 rfl rfl ?_
        refine ev_iadd (pc := 54) dX10_give_54 ?_
        obtain ⟨q11a, q11d, q11b, q11c, hL⟩ := cY_un hL
        refine ev_iast (pc := 55) dX10_give_55 q11a q11d q11b q11c ?_
        refine ev_puG hL (fun h12 hL => ?_)
        refine ev_aload_n (pc := 56) (i := 0) dX10_give_56 rfl rfl ?_
        refine ev_get (pc := 57) (c9 := 10) (k9 := 32) dX10_give_57 fl_Md_61 (by decide) hs1 (gv10_32 hs1) ?_
        refine ev_bipush (pc := 60) dX10_give_60 (by decide) ?_
        obtain ⟨q13a, q13b, q13c, hL⟩ := cX_un hL
        refine ev_iald (pc := 62) dX10_give_62 q13a q13b q13c ?_
        exact evB_iret (pc := 63) dX10_give_63 rfl hL
set_option maxHeartbeats 1000000 in
set_option maxRecDepth 100000 in
theorem KMd_given_b83 {ω : Wd} {z : Nat → Prop}  {h h' : Hp} {x0 y0 y1 y2 r : Int}  (hL : Md_given_b83 h x0 y0 y1 y2 = some (r, h')) : EvB ω N_Md_given 2 (QB (some (iV r)) z h') z h 83 [some (aV ω x0), none, none, none] [iV y2, iV y1, aV ω y0] := by
  unfold Md_given_b83 at hL
  obtain ⟨q13a, q13d, q13b, q13c, hL⟩ := cY_un hL
  refine ev_iast (pc := 83) dX10_given_83 q13a q13d q13b q13c ?_
  refine ev_puG hL (fun h14 hL => ?_)
  refine ev_aload_n (pc := 84) (i := 0) dX10_given_84 rfl rfl ?_
  refine ev_dup (pc := 85) dX10_given_85 (cat_aV _ _) ?_
  obtain ⟨hs15, hL⟩ := cC_un hL
  refine ev_get (pc := 86) (c9 := 10) (k9 := 50) dX10_given_86 fl_Md_300 (by decide) hs15 gv10_50 ?_
  refine ev_iconst (pc := 89) dX10_given_89 ?_
  refine ev_iadd (pc := 90) dX10_given_90 ?_
  refine evB_putI (pc := 91) (c9 := 10) (k9 := 50) (kI := 50) dX10_given_91 fl_Md_300 hs15 (by decide) (fun q hq => by cases hq; rfl) rfl rfl rfl ?_
  refine ev_puG hL (fun h16 hL => ?_)
  refine ev_aload_n (pc := 94) (i := 0) dX10_given_94 rfl rfl ?_
  refine ev_get (pc := 95) (c9 := 10) (k9 := 50) dX10_given_95 fl_Md_300 (by decide) hs15 gv10_50 ?_
  exact evB_iret (pc := 98) dX10_given_98 rfl hL
set_option maxHeartbeats 1000000 in
set_option maxRecDepth 100000 in
theorem M_Md_given {ω : Wd} {z : Nat → Prop} {h h' : Hp} {a0 a1 a2 a3 r : Int}  (hL : Md_given h a0 a1 a2 a3 = some (r, h')) : CtB ω N_Md_given 2 [aV ω a0, iV a1, iV a2, iV a3] z h (some (iV r)) h' := by
  unfold Md_given at hL
  refine Ct_of (lv := [some (aV ω a0), some (iV a1), some (iV a2), some (iV a3)]) (by decide) (Nat.le_trans (sl_1 (cat_aV _ _) (sl_1 (cat_iV _) (sl_1 (cat_iV _) (sl_1 (cat_iV _) sl_z)))) (Nat.le_of_ble_eq_true rfl)) (la_1 (cat_aV _ _) (la_1 (cat_iV _) (la_1 (cat_iV _) (la_1 (cat_iV _) la_z)))) ?_
  refine ev_aload_n (pc := 0) (i := 0) dX10_given_0 rfl rfl ?_
  refine ev_iconst (pc := 1) dX10_given_1 ?_
  obtain ⟨hs1, hL⟩ := cC_un hL
  refine evB_putI (pc := 2) (c9 := 10) (k9 := 0) (kI := 0) dX10_given_2 fl_Md_96 hs1 (by decide) (fun q hq => by cases hq; rfl) rfl rfl rfl ?_
  refine ev_puG hL (fun h2 hL => ?_)
  refine ev_aload_n (pc := 5) (i := 0) dX10_given_5 rfl rfl ?_
  refine ev_iload_n (pc := 6) (i := 1) dX10_given_6 rfl rfl ?_
  obtain ⟨r3, h4, hc5, hL⟩ := cl_un hL
  refine evB_callV_I (pc := 7) (M_Md_isWrong hc5) dX10_given_7 mt_Md_isWrong st_Md_isWrong ml_Md_369 hs1 (by decide) ⟨_, rfl, rfl⟩ (Nat.le_of_ble_eq_true rfl) rfl rfl (Nat.le_trans sm_z (by decide)) ?_
  refine ev_if_eq (pc := 10) (tgt := 34) dX10_given_10 rfl hL rfl (fun hL => ?_) (fun hL => ?_)
  · refine ev_iconst (pc := 34) dX10_given_34 ?_
    exact evB_iret (pc := 35) dX10_given_35 rfl hL
  · refine ev_iload_n (pc := 13) (i := 2) dX10_given_13 rfl rfl ?_
    refine ev_i2l (pc := 14) dX10_given_14 ?_
    refine ev_lconst (pc := 15) (x := 1) dX10_given_15 rfl ?_
    refine ev_ldc2 (pc := 16) (x := 30) dX10_given_16 w_l_Md_420 ?_
    obtain ⟨r6, h7, hc8, hL⟩ := cl_un hL
    refine evB_callS_I (pc := 19) (M_Md_isIn hc8) dX10_given_19 mt_Md_isIn st_Md_isIn ml_Md_217 (Nat.le_of_ble_eq_true rfl) rfl rfl (Nat.le_trans sm_z (by decide)) ?_
    refine ev_if_eq (pc := 22) (tgt := 34) dX10_given_22 rfl hL rfl (fun hL => ?_) (fun hL => ?_)
    · refine ev_iconst (pc := 34) dX10_given_34 ?_
      exact evB_iret (pc := 35) dX10_given_35 rfl hL
    · refine ev_aload_n (pc := 25) (i := 0) dX10_given_25 rfl rfl ?_
      refine ev_get (pc := 26) (c9 := 10) (k9 := 50) dX10_given_26 fl_Md_300 (by decide) hs1 gv10_50 ?_
      refine ev_bipush (pc := 29) dX10_given_29 (by decide) ?_
      refine ev_icmp_ne (pc := 31) (tgt := 36) dX10_given_31 rfl hL rfl (fun hL => ?_) (fun hL => ?_)
      · refine ev_iconst (pc := 34) dX10_given_34 ?_
        exact evB_iret (pc := 35) dX10_given_35 rfl hL
      · refine ev_aload_n (pc := 36) (i := 0) dX10_given_36 rfl rfl ?_
        refine ev_get (pc := 37) (c9 := 10) (k9 := 49) dX10_given_37 fl_Md_87 (by decide) hs1 (gv10_49 hs1) ?_
        refine ev_iconst (pc := 40) dX10_given_40 ?_
        refine ev_aload_n (pc := 41) (i := 0) dX10_given_41 rfl rfl ?_
        refine ev_get (pc := 42) (c9 := 10) (k9 := 50) dX10_given_42 fl_Md_300 (by decide) hs1 gv10_50 ?_
        refine ev_imul (pc := 45) dX10_given_45 ?_
        refine ev_iload_n (pc := 46) (i := 1) dX10_given_46 rfl rfl ?_
        obtain ⟨q9a, q9d, q9b, q9c, hL⟩ := cY_un hL
        refine ev_iast (pc := 47) dX10_given_47 q9a q9d q9b q9c ?_
        refine ev_puG hL (fun h10 hL => ?_)
        refine ev_aload_n (pc := 48) (i := 0) dX10_given_48 rfl rfl ?_
        refine ev_get (pc := 49) (c9 := 10) (k9 := 49) dX10_given_49 fl_Md_87 (by decide) hs1 (gv10_49 hs1) ?_
        refine ev_iconst (pc := 52) dX10_given_52 ?_
        refine ev_aload_n (pc := 53) (i := 0) dX10_given_53 rfl rfl ?_
        refine ev_get (pc := 54) (c9 := 10) (k9 := 50) dX10_given_54 fl_Md_300 (by decide) hs1 gv10_50 ?_
        refine ev_imul (pc := 57) dX10_given_57 ?_
        refine ev_iconst (pc := 58) dX10_given_58 ?_
        refine ev_iadd (pc := 59) dX10_given_59 ?_
        refine ev_iload_n (pc := 60) (i := 2) dX10_given_60 rfl rfl ?_
        obtain ⟨q11a, q11d, q11b, q11c, hL⟩ := cY_un hL
        refine ev_iast (pc := 61) dX10_given_61 q11a q11d q11b q11c ?_
        refine ev_puG hL (fun h12 hL => ?_)
        refine ev_aload_n (pc := 62) (i := 0) dX10_given_62 rfl rfl ?_
        refine ev_get (pc := 63) (c9 := 10) (k9 := 49) dX10_given_63 fl_Md_87 (by decide) hs1 (gv10_49 hs1) ?_
        refine ev_iconst (pc := 66) dX10_given_66 ?_
        refine ev_aload_n (pc := 67) (i := 0) dX10_given_67 rfl rfl ?_
        refine ev_get (pc := 68) (c9 := 10) (k9 := 50) dX10_given_68 fl_Md_300 (by decide) hs1 gv10_50 ?_
        refine ev_imul (pc := 71) dX10_given_71 ?_
        refine ev_iconst (pc := 72) dX10_given_72 ?_
        refine ev_iadd (pc := 73) dX10_given_73 ?_
        refine ev_iload_n (pc := 74) (i := 3) dX10_given_74 rfl rfl ?_
        refine ev_if_eq (pc := 75) (tgt := 82) dX10_given_75 rfl hL rfl (fun hL => ?_) (fun hL => ?_)
        · refine ev_iconst (pc := 82) dX10_given_82 ?_
          exact ev_le (lvle_s (lvle_n (lvle_n (lvle_n lvle_z)))) (KMd_given_b83  hL)
        · refine ev_iconst (pc := 78) dX10_given_78 ?_
          refine ev_goto (pc := 79) (tgt := 83) dX10_given_79 rfl ?_
          exact ev_le (lvle_s (lvle_n (lvle_n (lvle_n lvle_z)))) (KMd_given_b83  hL)
