set_option maxHeartbeats 1000000 in
set_option maxRecDepth 100000 in
theorem KMd_remember_b52_body {ω : Wd} {z : Nat → Prop}  {k52 : Hp × Int × Int → Option (Int × Hp)} {h h' : Hp} {x0 x1 r : Int}  (hk52 : ∀ s o, k52 s = some o → EvB ω N_Md_remember 1 (QB none z o.2) z s.1 52 [some (aV ω s.2.1), some (iV s.2.2)] []) (hL : Md_remember_b52_body  k52 h x0 x1 = some (r, h')) : EvB ω N_Md_remember 1 (QB none z h') z h 52 [some (aV ω x0), some (iV x1)] [] := by
  unfold Md_remember_b52_body at hL
  refine ev_iload_n (pc := 52) (i := 1) dX10_remember_52 rfl rfl ?_
  refine ev_sipush (pc := 53) dX10_remember_53 (by decide) ?_
  refine ev_icmp_ge (pc := 56) (tgt := 86) dX10_remember_56 rfl hL rfl (fun hL => ?_) (fun hL => ?_)
  · refine ev_aload_n (pc := 59) (i := 0) dX10_remember_59 rfl rfl ?_
    obtain ⟨hs8, hL⟩ := cC_un hL
    refine ev_get (pc := 60) (c9 := 10) (k9 := 41) dX10_remember_60 fl_Md_84 (by decide) hs8 (gv10_41 hs8) ?_
    refine ev_sipush (pc := 63) dX10_remember_63 (by decide) ?_
    refine ev_aload_n (pc := 66) (i := 0) dX10_remember_66 rfl rfl ?_
    refine ev_get (pc := 67) (c9 := 10) (k9 := 42) dX10_remember_67 fl_Md_303 (by decide) hs8 gv10_42 ?_
    refine ev_imul (pc := 70) dX10_remember_70 ?_
    refine ev_iload_n (pc := 71) (i := 1) dX10_remember_71 rfl rfl ?_
    refine ev_iadd (pc := 72) dX10_remember_72 ?_
    refine ev_aload_n (pc := 73) (i := 0) dX10_remember_73 rfl rfl ?_
    refine ev_get (pc := 74) (c9 := 10) (k9 := 32) dX10_remember_74 fl_Md_61 (by decide) hs8 (gv10_32 hs8) ?_
    refine ev_iload_n (pc := 77) (i := 1) dX10_remember_77 rfl rfl ?_
    obtain ⟨q9a, q9b, q9c, hL⟩ := cX_un hL
    refine ev_iald (pc := 78) dX10_remember_78 q9a q9b q9c ?_
    obtain ⟨q10a, q10d, q10b, q10c, hL⟩ := cY_un hL
    refine ev_iast (pc := 79) dX10_remember_79 q10a q10d q10b q10c ?_
    refine ev_puG hL (fun h11 hL => ?_)
    refine ev_iinc (pc := 80) dX10_remember_80 rfl (lnl_v (cat_aV _ _) rfl) (Nat.le_of_ble_eq_true rfl) ?_
    refine ev_goto (pc := 83) (tgt := 52) dX10_remember_83 rfl ?_
    exact ev_le (lvle_s (lvle_s lvle_z)) (hk52 _ _ hL)
  · refine ev_aload_n (pc := 86) (i := 0) dX10_remember_86 rfl rfl ?_
    refine ev_dup (pc := 87) dX10_remember_87 (cat_aV _ _) ?_
    obtain ⟨hs12, hL⟩ := cC_un hL
    refine ev_get (pc := 88) (c9 := 10) (k9 := 42) dX10_remember_88 fl_Md_303 (by decide) hs12 gv10_42 ?_
    refine ev_iconst (pc := 91) dX10_remember_91 ?_
    refine ev_iadd (pc := 92) dX10_remember_92 ?_
    refine evB_putI (pc := 93) (c9 := 10) (k9 := 42) (kI := 42) dX10_remember_93 fl_Md_303 hs12 (by decide) (fun q hq => by cases hq; rfl) rfl rfl rfl ?_
    refine ev_puG hL (fun h13 hL => ?_)
    exact evB_vret (pc := 96) dX10_remember_96 rfl hL
set_option maxHeartbeats 1000000 in
set_option maxRecDepth 100000 in
theorem KMd_remember_b52 {ω : Wd} {z : Nat → Prop}  {h h' : Hp} {x0 x1 r : Int}  (hL : Md_remember_b52 h x0 x1 = some (r, h')) : EvB ω N_Md_remember 1 (QB none z h') z h 52 [some (aV ω x0), some (iV x1)] [] := by
  unfold Md_remember_b52 at hL
  refine itr_link (P := fun (s : Hp × Int × Int) (o : Int × Hp) => EvB ω N_Md_remember 1 (QB none z o.2) z s.1 52 [some (aV ω s.2.1), some (iV s.2.2)] []) ?_ _ _ _ hL
  intro k hk s o h9
  have h10 := KMd_remember_b52_body (ω := ω) (z := z) (k52 := k) (h := s.1) (x0 := s.2.1) (x1 := s.2.2) (r := o.1) (h' := o.2) 
  exact h10 hk h9
set_option maxHeartbeats 1000000 in
set_option maxRecDepth 100000 in
theorem KMd_remember_b11_body {ω : Wd} {z : Nat → Prop}  {k11 : Hp × Int × Int → Option (Int × Hp)} {h h' : Hp} {x0 x1 r : Int}  (hk11 : ∀ s o, k11 s = some o → EvB ω N_Md_remember 1 (QB none z o.2) z s.1 11 [some (aV ω s.2.1), some (iV s.2.2)] []) (hL : Md_remember_b11_body  k11 h x0 x1 = some (r, h')) : EvB ω N_Md_remember 1 (QB none z h') z h 11 [some (aV ω x0), some (iV x1)] [] := by
  unfold Md_remember_b11_body at hL
  refine ev_iload_n (pc := 11) (i := 1) dX10_remember_11 rfl rfl ?_
  refine ev_sipush (pc := 12) dX10_remember_12 (by decide) ?_
  refine ev_icmp_ge (pc := 15) (tgt := 40) dX10_remember_15 rfl hL rfl (fun hL => ?_) (fun hL => ?_)
  · refine ev_aload_n (pc := 18) (i := 0) dX10_remember_18 rfl rfl ?_
    obtain ⟨hs2, hL⟩ := cC_un hL
    refine ev_get (pc := 19) (c9 := 10) (k9 := 41) dX10_remember_19 fl_Md_84 (by decide) hs2 (gv10_41 hs2) ?_
    refine ev_iload_n (pc := 22) (i := 1) dX10_remember_22 rfl rfl ?_
    refine ev_aload_n (pc := 23) (i := 0) dX10_remember_23 rfl rfl ?_
    refine ev_get (pc := 24) (c9 := 10) (k9 := 41) dX10_remember_24 fl_Md_84 (by decide) hs2 (gv10_41 hs2) ?_
    refine ev_iload_n (pc := 27) (i := 1) dX10_remember_27 rfl rfl ?_
    refine ev_sipush (pc := 28) dX10_remember_28 (by decide) ?_
    refine ev_iadd (pc := 31) dX10_remember_31 ?_
    obtain ⟨q3a, q3b, q3c, hL⟩ := cX_un hL
    refine ev_iald (pc := 32) dX10_remember_32 q3a q3b q3c ?_
    obtain ⟨q4a, q4d, q4b, q4c, hL⟩ := cY_un hL
    refine ev_iast (pc := 33) dX10_remember_33 q4a q4d q4b q4c ?_
    refine ev_puG hL (fun h5 hL => ?_)
    refine ev_iinc (pc := 34) dX10_remember_34 rfl (lnl_v (cat_aV _ _) rfl) (Nat.le_of_ble_eq_true rfl) ?_
    refine ev_goto (pc := 37) (tgt := 11) dX10_remember_37 rfl ?_
    exact ev_le (lvle_s (lvle_s lvle_z)) (hk11 _ _ hL)
  · refine ev_aload_n (pc := 40) (i := 0) dX10_remember_40 rfl rfl ?_
    refine ev_dup (pc := 41) dX10_remember_41 (cat_aV _ _) ?_
    obtain ⟨hs6, hL⟩ := cC_un hL
    refine ev_get (pc := 42) (c9 := 10) (k9 := 42) dX10_remember_42 fl_Md_303 (by decide) hs6 gv10_42 ?_
    refine ev_iconst (pc := 45) dX10_remember_45 ?_
    refine ev_isub (pc := 46) dX10_remember_46 ?_
    refine evB_putI (pc := 47) (c9 := 10) (k9 := 42) (kI := 42) dX10_remember_47 fl_Md_303 hs6 (by decide) (fun q hq => by cases hq; rfl) rfl rfl rfl ?_
    refine ev_puG hL (fun h7 hL => ?_)
    refine ev_iconst (pc := 50) dX10_remember_50 ?_
    refine ev_istore_n (pc := 51) (i := 1) dX10_remember_51 rfl (lnl_v (cat_aV _ _) rfl) (Nat.le_of_ble_eq_true rfl) ?_
    exact ev_le (lvle_s (lvle_s lvle_z)) (KMd_remember_b52  hL)
set_option maxHeartbeats 1000000 in
set_option maxRecDepth 100000 in
theorem KMd_remember_b11 {ω : Wd} {z : Nat → Prop}  {h h' : Hp} {x0 x1 r : Int}  (hL : Md_remember_b11 h x0 x1 = some (r, h')) : EvB ω N_Md_remember 1 (QB none z h') z h 11 [some (aV ω x0), some (iV x1)] [] := by
  unfold Md_remember_b11 at hL
  refine itr_link (P := fun (s : Hp × Int × Int) (o : Int × Hp) => EvB ω N_Md_remember 1 (QB none z o.2) z s.1 11 [some (aV ω s.2.1), some (iV s.2.2)] []) ?_ _ _ _ hL
  intro k hk s o h9
  have h10 := KMd_remember_b11_body (ω := ω) (z := z) (k11 := k) (h := s.1) (x0 := s.2.1) (x1 := s.2.2) (r := o.1) (h' := o.2) 
  exact h10 hk h9
set_option maxHeartbeats 1000000 in
set_option maxRecDepth 100000 in
theorem M_Md_remember {ω : Wd} {z : Nat → Prop} {h h' : Hp} {a0 r : Int}  (hL : Md_remember h a0 = some (r, h')) : CtB ω N_Md_remember 1 [aV ω a0] z h none h' := by
  unfold Md_remember at hL
  refine Ct_of (lv := [some (aV ω a0), none]) (by decide) (Nat.le_trans (sl_1 (cat_aV _ _) sl_z) (Nat.le_of_ble_eq_true rfl)) (la_1 (cat_aV _ _) (la_n la_z)) ?_
  refine ev_aload_n (pc := 0) (i := 0) dX10_remember_0 rfl rfl ?_
  obtain ⟨hs1, hL⟩ := cC_un hL
  refine ev_get (pc := 1) (c9 := 10) (k9 := 42) dX10_remember_1 fl_Md_303 (by decide) hs1 gv10_42 ?_
  refine ev_bipush (pc := 4) dX10_remember_4 (by decide) ?_
  refine ev_icmp_ne (pc := 6) (tgt := 50) dX10_remember_6 rfl hL rfl (fun hL => ?_) (fun hL => ?_)
  · refine ev_iconst (pc := 9) dX10_remember_9 ?_
    refine ev_istore_n (pc := 10) (i := 1) dX10_remember_10 rfl (lnl_v (cat_aV _ _) rfl) (Nat.le_of_ble_eq_true rfl) ?_
    exact ev_le (lvle_s (lvle_s lvle_z)) (KMd_remember_b11  hL)
  · refine ev_iconst (pc := 50) dX10_remember_50 ?_
    refine ev_istore_n (pc := 51) (i := 1) dX10_remember_51 rfl (lnl_v (cat_aV _ _) rfl) (Nat.le_of_ble_eq_true rfl) ?_
    exact ev_le (lvle_s (lvle_s lvle_z)) (KMd_remember_b52  hL)
set_option maxHeartbeats 1000000 in
set_option maxRecDepth 100000 in
theorem M_Md_appeal {ω : Wd} {z : Nat → Prop} {h h' : Hp} {a0 a1 a2 r : Int}  (hL : Md_appeal h a0 a1 a2 = some (r, h')) : CtB ω N_Md_appeal 4 [aV ω a0, iV a1, iV a2] z h (some (iV r)) h' := by
  unfold Md_appeal at hL
  refine Ct_of (lv := [some (aV ω a0), some (iV a1), some (iV a2)]) (by decide) (Nat.le_trans (sl_1 (cat_aV _ _) (sl_1 (cat_iV _) (sl_1 (cat_iV _) sl_z))) (Nat.le_of_ble_eq_true rfl)) (la_1 (cat_aV _ _) (la_1 (cat_iV _) (la_1 (cat_iV _) la_z))) ?_
  refine ev_aload_n (pc := 0) (i := 0) dX10_appeal_0 rfl rfl ?_
  refine ev_iconst (pc := 1) dX10_appeal_1 ?_
  obtain ⟨hs1, hL⟩ := cC_un hL
  refine evB_putI (pc := 2) (c9 := 10) (k9 := 0) (kI := 0) dX10_appeal_2 fl_Md_96 hs1 (by decide) (fun q hq => by cases hq; rfl) rfl rfl rfl ?_
  refine ev_puG hL (fun h2 hL => ?_)
  refine ev_aload_n (pc := 5) (i := 0) dX10_appeal_5 rfl rfl ?_
  refine ev_aload_n (pc := 6) (i := 0) dX10_appeal_6 rfl rfl ?_
  refine ev_get (pc := 7) (c9 := 10) (k9 := 32) dX10_appeal_7 fl_Md_61 (by decide) hs1 (gv10_32 hs1) ?_
  refine ev_iload_n (pc := 10) (i := 1) dX10_appeal_10 rfl rfl ?_
  refine ev_iload_n (pc := 11) (i := 2) dX10_appeal_11 rfl rfl ?_
  obtain ⟨r3, h4, hc5, hL⟩ := cl_un hL
  refine evB_callV_I (pc := 12) (M_Md_canAppeal hc5) dX10_appeal_12 mt_Md_canAppeal st_Md_canAppeal ml_Md_396 hs1 (by decide) ⟨_, rfl, rfl⟩ (Nat.le_of_ble_eq_true rfl) rfl rfl (Nat.le_trans sm_z (by decide)) ?_
  refine ev_if_ne (pc := 15) (tgt := 20) dX10_appeal_15 rfl hL rfl (fun hL => ?_) (fun hL => ?_)
  · refine ev_iconst (pc := 18) dX10_appeal_18 ?_
    exact evB_iret (pc := 19) dX10_appeal_19 rfl hL
  · refine ev_aload_n (pc := 20) (i := 0) dX10_appeal_20 rfl rfl ?_
    obtain ⟨r6, h7, hc8, hL⟩ := cl_un hL
    refine evB_callV_V (pc := 21) (M_Md_remember hc8) dX10_appeal_21 mt_Md_remember st_Md_remember ml_Md_384 hs1 (by decide) ⟨_, rfl, rfl⟩ (Nat.le_of_ble_eq_true rfl) rfl rfl (Nat.le_trans sm_z (by decide)) ?_
    refine ev_aload_n (pc := 24) (i := 0) dX10_appeal_24 rfl rfl ?_
    refine ev_get (pc := 25) (c9 := 10) (k9 := 32) dX10_appeal_25 fl_Md_61 (by decide) hs1 (gv10_32 hs1) ?_
    refine ev_iload_n (pc := 28) (i := 1) dX10_appeal_28 rfl rfl ?_
    refine ev_iload_n (pc := 29) (i := 2) dX10_appeal_29 rfl rfl ?_
    obtain ⟨r9, h10, hc11, hL⟩ := cl_un hL
    refine evB_callS_V (pc := 30) (M_Md_appeals hc11) dX10_appeal_30 mt_Md_appeals st_Md_appeals ml_Md_400 (Nat.le_of_ble_eq_true rfl) rfl rfl (Nat.le_trans sm_z (by decide)) ?_
    refine ev_aload_n (pc := 33) (i := 0) dX10_appeal_33 rfl rfl ?_
    refine ev_get (pc := 34) (c9 := 10) (k9 := 32) dX10_appeal_34 fl_Md_61 (by decide) hs1 (gv10_32 hs1) ?_
    refine ev_iload_n (pc := 37) (i := 1) dX10_appeal_37 rfl rfl ?_
    refine ev_iload_n (pc := 38) (i := 2) dX10_appeal_38 rfl rfl ?_
    obtain ⟨r12, h13, hc14, hL⟩ := cl_un hL
    refine evB_callS_I (pc := 39) (M_Md_owes hc14) dX10_appeal_39 mt_Md_owes st_Md_owes ml_Md_312 (Nat.le_of_ble_eq_true rfl) rfl rfl (Nat.le_trans sm_z (by decide)) ?_
    exact evB_iret (pc := 42) dX10_appeal_42 rfl hL
set_option maxHeartbeats 1000000 in
set_option maxRecDepth 100000 in
theorem KMd_look_b43 {ω : Wd} {z : Nat → Prop}  {h h' : Hp} {x0 r : Int}  (hL : Md_look_b43 h x0 = some (r, h')) : EvB ω N_Md_look 1 (QB (some (iV r)) z h') z h 43 [some (aV ω x0)] [] := by
  unfold Md_look_b43 at hL
  refine ev_aload_n (pc := 43) (i := 0) dX10_look_43 rfl rfl ?_
  obtain ⟨hs4, hL⟩ := cC_un hL
  refine ev_get (pc := 44) (c9 := 10) (k9 := 10) dX10_look_44 fl_Md_119 (by decide) hs4 gv10_10 ?_
  refine ev_aload_n (pc := 47) (i := 0) dX10_look_47 rfl rfl ?_
  refine ev_get (pc := 48) (c9 := 10) (k9 := 9) dX10_look_48 fl_Md_122 (by decide) hs4 gv10_9 ?_
  refine ev_icmp_ge (pc := 51) (tgt := 75) dX10_look_51 rfl hL rfl (fun hL => ?_) (fun hL => ?_)
  · refine ev_aload_n (pc := 54) (i := 0) dX10_look_54 rfl rfl ?_
    refine ev_get (pc := 55) (c9 := 10) (k9 := 5) dX10_look_55 fl_Md_23 (by decide) hs4 gv10_5 ?_
    refine ev_aload_n (pc := 58) (i := 0) dX10_look_58 rfl rfl ?_
    refine ev_get (pc := 59) (c9 := 10) (k9 := 8) dX10_look_59 fl_Md_125 (by decide) hs4 gv10_8 ?_
    refine ev_aload_n (pc := 62) (i := 0) dX10_look_62 rfl rfl ?_
    refine ev_get (pc := 63) (c9 := 10) (k9 := 10) dX10_look_63 fl_Md_119 (by decide) hs4 gv10_10 ?_
    refine ev_iadd (pc := 66) dX10_look_66 ?_
    obtain ⟨q5a, q5b, q5c, hL⟩ := cX_un hL
    refine ev_bald (pc := 67) dX10_look_67 q5a q5b q5c ?_
    refine ev_sipush (pc := 68) dX10_look_68 (by decide) ?_
    refine ev_iand (pc := 71) dX10_look_71 ?_
    refine ev_goto (pc := 72) (tgt := 76) dX10_look_72 rfl ?_
    exact evB_iret (pc := 76) dX10_look_76 rfl hL
  · refine ev_iconst (pc := 75) dX10_look_75 ?_
    exact evB_iret (pc := 76) dX10_look_76 rfl hL
set_option maxHeartbeats 1000000 in
set_option maxRecDepth 100000 in
theorem KMd_look_b0_body {ω : Wd} {z : Nat → Prop}  {k0 : Hp × Int → Option (Int × Hp)} {h h' : Hp} {x0 r : Int}  (hk0 : ∀ s o, k0 s = some o → EvB ω N_Md_look 1 (QB (some (iV o.1)) z o.2) z s.1 0 [some (aV ω s.2)] []) (hL : Md_look_b0_body  k0 h x0 = some (r, h')) : EvB ω N_Md_look 1 (QB (some (iV r)) z h') z h 0 [some (aV ω x0)] [] := by
  unfold Md_look_b0_body at hL
  refine ev_aload_n (pc := 0) (i := 0) dX10_look_0 rfl rfl ?_
  obtain ⟨hs1, hL⟩ := cC_un hL
  refine ev_get (pc := 1) (c9 := 10) (k9 := 10) dX10_look_1 fl_Md_119 (by decide) hs1 gv10_10 ?_
  refine ev_aload_n (pc := 4) (i := 0) dX10_look_4 rfl rfl ?_
  refine ev_get (pc := 5) (c9 := 10) (k9 := 9) dX10_look_5 fl_Md_122 (by decide) hs1 gv10_9 ?_
  refine ev_icmp_ge (pc := 8) (tgt := 43) dX10_look_8 rfl hL rfl (fun hL => ?_) (fun hL => ?_)
  · refine ev_aload_n (pc := 11) (i := 0) dX10_look_11 rfl rfl ?_
    refine ev_get (pc := 12) (c9 := 10) (k9 := 5) dX10_look_12 fl_Md_23 (by decide) hs1 gv10_5 ?_
    refine ev_aload_n (pc := 15) (i := 0) dX10_look_15 rfl rfl ?_
    refine ev_get (pc := 16) (c9 := 10) (k9 := 8) dX10_look_16 fl_Md_125 (by decide) hs1 gv10_8 ?_
    refine ev_aload_n (pc := 19) (i := 0) dX10_look_19 rfl rfl ?_
    refine ev_get (pc := 20) (c9 := 10) (k9 := 10) dX10_look_20 fl_Md_119 (by decide) hs1 gv10_10 ?_
    refine ev_iadd (pc := 23) dX10_look_23 ?_
    obtain ⟨q2a, q2b, q2c, hL⟩ := cX_un hL
    refine ev_bald (pc := 24) dX10_look_24 q2a q2b q2c ?_
    refine ev_bipush (pc := 25) dX10_look_25 (by decide) ?_
    refine ev_icmp_ne (pc := 27) (tgt := 43) dX10_look_27 rfl hL rfl (fun hL => ?_) (fun hL => ?_)
    · refine ev_aload_n (pc := 30) (i := 0) dX10_look_30 rfl rfl ?_
      refine ev_dup (pc := 31) dX10_look_31 (cat_aV _ _) ?_
      refine ev_get (pc := 32) (c9 := 10) (k9 := 10) dX10_look_32 fl_Md_119 (by decide) hs1 gv10_10 ?_
      refine ev_iconst (pc := 35) dX10_look_35 ?_
      refine ev_iadd (pc := 36) dX10_look_36 ?_
      refine evB_putI (pc := 37) (c9 := 10) (k9 := 10) (kI := 10) dX10_look_37 fl_Md_119 hs1 (by decide) (fun q hq => by cases hq; rfl) rfl rfl rfl ?_
      refine ev_puG hL (fun h3 hL => ?_)
      refine ev_goto (pc := 40) (tgt := 0) dX10_look_40 rfl ?_
      exact ev_le (lvle_s lvle_z) (hk0 _ _ hL)
    · exact ev_le (lvle_s lvle_z) (KMd_look_b43  hL)
  · exact ev_le (lvle_s lvle_z) (KMd_look_b43  hL)
set_option maxHeartbeats 1000000 in
set_option maxRecDepth 100000 in
theorem KMd_look_b0 {ω : Wd} {z : Nat → Prop}  {h h' : Hp} {x0 r : Int}  (hL : Md_look_b0 h x0 = some (r, h')) : EvB ω N_Md_look 1 (QB (some (iV r)) z h') z h 0 [some (aV ω x0)] [] := by
  unfold Md_look_b0 at hL
  refine itr_link (P := fun (s : Hp × Int) (o : Int × Hp) => EvB ω N_Md_look 1 (QB (some (iV o.1)) z o.2) z s.1 0 [some (aV ω s.2)] []) ?_ _ _ _ hL
  intro k hk s o h9
  have h10 := KMd_look_b0_body (ω := ω) (z := z) (k0 := k) (h := s.1) (x0 := s.2) (r := o.1) (h' := o.2) 
  exact h10 hk h9
set_option maxHeartbeats 1000000 in
set_option maxRecDepth 100000 in
theorem M_Md_look {ω : Wd} {z : Nat → Prop} {h h' : Hp} {a0 r : Int}  (hL : Md_look h a0 = some (r, h')) : CtB ω N_Md_look 1 [aV ω a0] z h (some (iV r)) h' := by
  unfold Md_look at hL
  refine Ct_of (lv := [some (aV ω a0)]) (by decide) (Nat.le_trans (sl_1 (cat_aV _ _) sl_z) (Nat.le_of_ble_eq_true rfl)) (la_1 (cat_aV _ _) la_z) ?_
  exact ev_le (lvle_s lvle_z) (KMd_look_b0  hL)
set_option maxHeartbeats 1000000 in
set_option maxRecDepth 100000 in
theorem M_Md_fails {ω : Wd} {z : Nat → Prop} {h h' : Hp} {a0 r : Int}  (hL : Md_fails h a0 = some (r, h')) : CtB ω N_Md_fails 1 [aV ω a0] z h (some (iV r)) h' := by
  unfold Md_fails at hL
  refine Ct_of (lv := [some (aV ω a0)]) (by decide) (Nat.le_trans (sl_1 (cat_aV _ _) sl_z) (Nat.le_of_ble_eq_true rfl)) (la_1 (cat_aV _ _) la_z) ?_
  refine ev_aload_n (pc := 0) (i := 0) dX10_fails_0 rfl rfl ?_
  obtain ⟨hs1, hL⟩ := cC_un hL
  refine ev_get (pc := 1) (c9 := 10) (k9 := 11) dX10_fails_1 fl_Md_128 (by decide) hs1 gv10_11 ?_
  refine ev_iconst (pc := 4) dX10_fails_4 ?_
  refine ev_icmp_ne (pc := 5) (tgt := 16) dX10_fails_5 rfl hL rfl (fun hL => ?_) (fun hL => ?_)
  · refine ev_aload_n (pc := 8) (i := 0) dX10_fails_8 rfl rfl ?_
    refine ev_aload_n (pc := 9) (i := 0) dX10_fails_9 rfl rfl ?_
    refine ev_get (pc := 10) (c9 := 10) (k9 := 10) dX10_fails_10 fl_Md_119 (by decide) hs1 gv10_10 ?_
    refine evB_putI (pc := 13) (c9 := 10) (k9 := 11) (kI := 11) dX10_fails_13 fl_Md_128 hs1 (by decide) (fun q hq => by cases hq; rfl) rfl rfl rfl ?_
    refine ev_puG hL (fun h2 hL => ?_)
    refine ev_iconst (pc := 16) dX10_fails_16 ?_
    exact evB_zret (pc := 17) dX10_fails_17 rfl rfl hL
  · refine ev_iconst (pc := 16) dX10_fails_16 ?_
    exact evB_zret (pc := 17) dX10_fails_17 rfl rfl hL
set_option maxHeartbeats 1000000 in
set_option maxRecDepth 100000 in
theorem M_Md_isSign {ω : Wd} {z : Nat → Prop} {h h' : Hp} {a0 r : Int}  (hL : Md_isSign h a0 = some (r, h')) : CtB ω N_Md_isSign 1 [iV a0] z h (some (iV r)) h' := by
  unfold Md_isSign at hL
  refine Ct_of (lv := [some (iV a0)]) (by decide) (Nat.le_trans (sl_1 (cat_iV _) sl_z) (Nat.le_of_ble_eq_true rfl)) (la_1 (cat_iV _) la_z) ?_
  refine ev_iload_n (pc := 0) (i := 0) dX10_isSign_0 rfl rfl ?_
  refine ev_bipush (pc := 1) dX10_isSign_1 (by decide) ?_
  refine ev_icmp_eq (pc := 3) (tgt := 18) dX10_isSign_3 rfl hL rfl (fun hL => ?_) (fun hL => ?_)
  · refine ev_iconst (pc := 18) dX10_isSign_18 ?_
    refine ev_goto (pc := 19) (tgt := 23) dX10_isSign_19 rfl ?_
    exact evB_zret (pc := 23) dX10_isSign_23 rfl rfl hL
  · refine ev_iload_n (pc := 6) (i := 0) dX10_isSign_6 rfl rfl ?_
    refine ev_bipush (pc := 7) dX10_isSign_7 (by decide) ?_
    refine ev_icmp_eq (pc := 9) (tgt := 18) dX10_isSign_9 rfl hL rfl (fun hL => ?_) (fun hL => ?_)
    · refine ev_iconst (pc := 18) dX10_isSign_18 ?_
      refine ev_goto (pc := 19) (tgt := 23) dX10_isSign_19 rfl ?_
      exact evB_zret (pc := 23) dX10_isSign_23 rfl rfl hL
    · refine ev_iload_n (pc := 12) (i := 0) dX10_isSign_12 rfl rfl ?_
      refine ev_bipush (pc := 13) dX10_isSign_13 (by decide) ?_
      refine ev_icmp_ne (pc := 15) (tgt := 22) dX10_isSign_15 rfl hL rfl (fun hL => ?_) (fun hL => ?_)
      · refine ev_iconst (pc := 18) dX10_isSign_18 ?_
        refine ev_goto (pc := 19) (tgt := 23) dX10_isSign_19 rfl ?_
        exact evB_zret (pc := 23) dX10_isSign_23 rfl rfl hL
      · refine ev_iconst (pc := 22) dX10_isSign_22 ?_
        exact evB_zret (pc := 23) dX10_isSign_23 rfl rfl hL
set_option maxHeartbeats 1000000 in
set_option maxRecDepth 100000 in
theorem M_Md_goesIn {ω : Wd} {z : Nat → Prop} {h h' : Hp} {a0 r : Int}  (hL : Md_goesIn h a0 = some (r, h')) : CtB ω N_Md_goesIn 2 [aV ω a0] z h (some (iV r)) h' := by
  unfold Md_goesIn at hL
  refine Ct_of (lv := [some (aV ω a0)]) (by decide) (Nat.le_trans (sl_1 (cat_aV _ _) sl_z) (Nat.le_of_ble_eq_true rfl)) (la_1 (cat_aV _ _) la_z) ?_
  refine ev_aload_n (pc := 0) (i := 0) dX10_goesIn_0 rfl rfl ?_
  obtain ⟨hs1, hL⟩ := cC_un hL
  refine ev_get (pc := 1) (c9 := 10) (k9 := 12) dX10_goesIn_1 fl_Md_131 (by decide) hs1 gv10_12 ?_
  refine ev_bipush (pc := 4) dX10_goesIn_4 (by decide) ?_
  refine ev_icmp_ne (pc := 6) (tgt := 14) dX10_goesIn_6 rfl hL rfl (fun hL => ?_) (fun hL => ?_)
  · refine ev_aload_n (pc := 9) (i := 0) dX10_goesIn_9 rfl rfl ?_
    obtain ⟨r2, h3, hc4, hL⟩ := cl_un hL
    refine evB_callV_I (pc := 10) (M_Md_fails hc4) dX10_goesIn_10 mt_Md_fails st_Md_fails ml_Md_134 hs1 (by decide) ⟨_, rfl, rfl⟩ (Nat.le_of_ble_eq_true rfl) rfl rfl (Nat.le_trans sm_z (by decide)) ?_
    exact evB_zret (pc := 13) dX10_goesIn_13 rfl rfl hL
  · refine ev_aload_n (pc := 14) (i := 0) dX10_goesIn_14 rfl rfl ?_
    refine ev_dup (pc := 15) dX10_goesIn_15 (cat_aV _ _) ?_
    refine ev_get (pc := 16) (c9 := 10) (k9 := 12) dX10_goesIn_16 fl_Md_131 (by decide) hs1 gv10_12 ?_
    refine ev_iconst (pc := 19) dX10_goesIn_19 ?_
    refine ev_iadd (pc := 20) dX10_goesIn_20 ?_
    refine evB_putI (pc := 21) (c9 := 10) (k9 := 12) (kI := 12) dX10_goesIn_21 fl_Md_131 hs1 (by decide) (fun q hq => by cases hq; rfl) rfl rfl rfl ?_
    refine ev_puG hL (fun h5 hL => ?_)
    refine ev_aload_n (pc := 24) (i := 0) dX10_goesIn_24 rfl rfl ?_
    refine ev_dup (pc := 25) dX10_goesIn_25 (cat_aV _ _) ?_
    refine ev_get (pc := 26) (c9 := 10) (k9 := 10) dX10_goesIn_26 fl_Md_119 (by decide) hs1 gv10_10 ?_
    refine ev_iconst (pc := 29) dX10_goesIn_29 ?_
    refine ev_iadd (pc := 30) dX10_goesIn_30 ?_
    refine evB_putI (pc := 31) (c9 := 10) (k9 := 10) (kI := 10) dX10_goesIn_31 fl_Md_119 hs1 (by decide) (fun q hq => by cases hq; rfl) rfl rfl rfl ?_
    refine ev_puG hL (fun h6 hL => ?_)
    refine ev_iconst (pc := 34) dX10_goesIn_34 ?_
    exact evB_zret (pc := 35) dX10_goesIn_35 rfl rfl hL
set_option maxHeartbeats 1000000 in
set_option maxRecDepth 100000 in
theorem KMd_isAmong_b2_body {ω : Wd} {z : Nat → Prop}  {k2 : Hp × Int × Int × Int → Option (Int × Hp)} {h h' : Hp} {x0 x1 x2 r : Int}  (hk2 : ∀ s o, k2 s = some o → EvB ω N_Md_isAmong 5 (QB (some (iV o.1)) z o.2) z s.1 2 [some (aV ω s.2.1), some (iV s.2.2.1), some (iV s.2.2.2)] []) (hL : Md_isAmong_b2_body  k2 h x0 x1 x2 = some (r, h')) : EvB ω N_Md_isAmong 5 (QB (some (iV r)) z h') z h 2 [some (aV ω x0), some (iV x1), some (iV x2)] [] := by
  unfold Md_isAmong_b2_body at hL
  refine ev_iload_n (pc := 2) (i := 2) dX10_isAmong_2 rfl rfl ?_
  refine ev_aload_n (pc := 3) (i := 0) dX10_isAmong_3 rfl rfl ?_
  obtain ⟨q1a, hL⟩ := cS_un hL
  refine evB_slen (pc := 4) dX10_isAmong_4 ml_Md_99 q1a rfl (Nat.le_trans (sm_1 (cat_iV _) sm_z) (by decide)) (Nat.le_of_ble_eq_true rfl) ?_
  refine ev_icmp_ge (pc := 7) (tgt := 27) dX10_isAmong_7 rfl hL rfl (fun hL => ?_) (fun hL => ?_)
  · refine ev_aload_n (pc := 10) (i := 0) dX10_isAmong_10 rfl rfl ?_
    refine ev_iload_n (pc := 11) (i := 2) dX10_isAmong_11 rfl rfl ?_
    obtain ⟨q2a, hL⟩ := cT_un hL
    refine evB_schr (pc := 12) dX10_isAmong_12 ml_Md_105 q2a rfl (Nat.le_trans sm_z (by decide)) (Nat.le_of_ble_eq_true rfl) ?_
    refine ev_iload_n (pc := 15) (i := 1) dX10_isAmong_15 rfl rfl ?_
    refine ev_icmp_ne (pc := 16) (tgt := 21) dX10_isAmong_16 rfl hL rfl (fun hL => ?_) (fun hL => ?_)
    · refine ev_iconst (pc := 19) dX10_isAmong_19 ?_
      exact evB_zret (pc := 20) dX10_isAmong_20 rfl rfl hL
    · refine ev_iinc (pc := 21) dX10_isAmong_21 rfl (lnl_v rfl rfl) (Nat.le_of_ble_eq_true rfl) ?_
      refine ev_goto (pc := 24) (tgt := 2) dX10_isAmong_24 rfl ?_
      exact ev_le (lvle_s (lvle_s (lvle_s lvle_z))) (hk2 _ _ hL)
  · refine ev_iconst (pc := 27) dX10_isAmong_27 ?_
    exact evB_zret (pc := 28) dX10_isAmong_28 rfl rfl hL
set_option maxHeartbeats 1000000 in
set_option maxRecDepth 100000 in
theorem KMd_isAmong_b2 {ω : Wd} {z : Nat → Prop}  {h h' : Hp} {x0 x1 x2 r : Int}  (hL : Md_isAmong_b2 h x0 x1 x2 = some (r, h')) : EvB ω N_Md_isAmong 5 (QB (some (iV r)) z h') z h 2 [some (aV ω x0), some (iV x1), some (iV x2)] [] := by
  unfold Md_isAmong_b2 at hL
  refine itr_link (P := fun (s : Hp × Int × Int × Int) (o : Int × Hp) => EvB ω N_Md_isAmong 5 (QB (some (iV o.1)) z o.2) z s.1 2 [some (aV ω s.2.1), some (iV s.2.2.1), some (iV s.2.2.2)] []) ?_ _ _ _ hL
  intro k hk s o h9
  have h10 := KMd_isAmong_b2_body (ω := ω) (z := z) (k2 := k) (h := s.1) (x0 := s.2.1) (x1 := s.2.2.1) (x2 := s.2.2.2) (r := o.1) (h' := o.2) 
  exact h10 hk h9
set_option maxHeartbeats 1000000 in
set_option maxRecDepth 100000 in
theorem M_Md_isAmong {ω : Wd} {z : Nat → Prop} {h h' : Hp} {a0 a1 r : Int}  (hL : Md_isAmong h a0 a1 = some (r, h')) : CtB ω N_Md_isAmong 5 [aV ω a0, iV a1] z h (some (iV r)) h' := by
  unfold Md_isAmong at hL
  refine Ct_of (lv := [some (aV ω a0), some (iV a1), none]) (by decide) (Nat.le_trans (sl_1 (cat_aV _ _) (sl_1 (cat_iV _) sl_z)) (Nat.le_of_ble_eq_true rfl)) (la_1 (cat_aV _ _) (la_1 (cat_iV _) (la_n la_z))) ?_
  refine ev_iconst (pc := 0) dX10_isAmong_0 ?_
  refine ev_istore_n (pc := 1) (i := 2) dX10_isAmong_1 rfl (lnl_v rfl rfl) (Nat.le_of_ble_eq_true rfl) ?_
  exact ev_le (lvle_s (lvle_s (lvle_s lvle_z))) (KMd_isAmong_b2  hL)
set_option maxHeartbeats 1000000 in
set_option maxRecDepth 100000 in
theorem M_Md_isDigit {ω : Wd} {z : Nat → Prop} {h h' : Hp} {a0 r : Int}  (hL : Md_isDigit h a0 = some (r, h')) : CtB ω N_Md_isDigit 1 [aV ω a0] z h (some (iV r)) h' := by
  unfold Md_isDigit at hL
  refine Ct_of (lv := [some (aV ω a0)]) (by decide) (Nat.le_trans (sl_1 (cat_aV _ _) sl_z) (Nat.le_of_ble_eq_true rfl)) (la_1 (cat_aV _ _) la_z) ?_
  refine ev_aload_n (pc := 0) (i := 0) dX10_isDigit_0 rfl rfl ?_
  obtain ⟨hs1, hL⟩ := cC_un hL
  refine ev_get (pc := 1) (c9 := 10) (k9 := 10) dX10_isDigit_1 fl_Md_119 (by decide) hs1 gv10_10 ?_
  refine ev_aload_n (pc := 4) (i := 0) dX10_isDigit_4 rfl rfl ?_
  refine ev_get (pc := 5) (c9 := 10) (k9 := 9) dX10_isDigit_5 fl_Md_122 (by decide) hs1 gv10_9 ?_
  refine ev_icmp_ge (pc := 8) (tgt := 53) dX10_isDigit_8 rfl hL rfl (fun hL => ?_) (fun hL => ?_)
  · refine ev_aload_n (pc := 11) (i := 0) dX10_isDigit_11 rfl rfl ?_
    refine ev_get (pc := 12) (c9 := 10) (k9 := 5) dX10_isDigit_12 fl_Md_23 (by decide) hs1 gv10_5 ?_
    refine ev_aload_n (pc := 15) (i := 0) dX10_isDigit_15 rfl rfl ?_
    refine ev_get (pc := 16) (c9 := 10) (k9 := 8) dX10_isDigit_16 fl_Md_125 (by decide) hs1 gv10_8 ?_
    refine ev_aload_n (pc := 19) (i := 0) dX10_isDigit_19 rfl rfl ?_
    refine ev_get (pc := 20) (c9 := 10) (k9 := 10) dX10_isDigit_20 fl_Md_119 (by decide) hs1 gv10_10 ?_
    refine ev_iadd (pc := 23) dX10_isDigit_23 ?_
    obtain ⟨q2a, q2b, q2c, hL⟩ := cX_un hL
    refine ev_bald (pc := 24) dX10_isDigit_24 q2a q2b q2c ?_
    refine ev_bipush (pc := 25) dX10_isDigit_25 (by decide) ?_
    refine ev_icmp_lt (pc := 27) (tgt := 53) dX10_isDigit_27 rfl hL rfl (fun hL => ?_) (fun hL => ?_)
    · refine ev_iconst (pc := 53) dX10_isDigit_53 ?_
      exact evB_zret (pc := 54) dX10_isDigit_54 rfl rfl hL
    · refine ev_aload_n (pc := 30) (i := 0) dX10_isDigit_30 rfl rfl ?_
      refine ev_get (pc := 31) (c9 := 10) (k9 := 5) dX10_isDigit_31 fl_Md_23 (by decide) hs1 gv10_5 ?_
      refine ev_aload_n (pc := 34) (i := 0) dX10_isDigit_34 rfl rfl ?_
      refine ev_get (pc := 35) (c9 := 10) (k9 := 8) dX10_isDigit_35 fl_Md_125 (by decide) hs1 gv10_8 ?_
      refine ev_aload_n (pc := 38) (i := 0) dX10_isDigit_38 rfl rfl ?_
      refine ev_get (pc := 39) (c9 := 10) (k9 := 10) dX10_isDigit_39 fl_Md_119 (by decide) hs1 gv10_10 ?_
      refine ev_iadd (pc := 42) dX10_isDigit_42 ?_
      obtain ⟨q3a, q3b, q3c, hL⟩ := cX_un hL
      refine ev_bald (pc := 43) dX10_isDigit_43 q3a q3b q3c ?_
      refine ev_bipush (pc := 44) dX10_isDigit_44 (by decide) ?_
      refine ev_icmp_gt (pc := 46) (tgt := 53) dX10_isDigit_46 rfl hL rfl (fun hL => ?_) (fun hL => ?_)
      · refine ev_iconst (pc := 53) dX10_isDigit_53 ?_
        exact evB_zret (pc := 54) dX10_isDigit_54 rfl rfl hL
      · refine ev_iconst (pc := 49) dX10_isDigit_49 ?_
        refine ev_goto (pc := 50) (tgt := 54) dX10_isDigit_50 rfl ?_
        exact evB_zret (pc := 54) dX10_isDigit_54 rfl rfl hL
  · refine ev_iconst (pc := 53) dX10_isDigit_53 ?_
    exact evB_zret (pc := 54) dX10_isDigit_54 rfl rfl hL
set_option maxHeartbeats 1000000 in
set_option maxRecDepth 100000 in
theorem KMd_takes_b16 {ω : Wd} {z : Nat → Prop}  {h h' : Hp} {x0 r : Int}  (hL : Md_takes_b16 h x0 = some (r, h')) : EvB ω N_Md_takes 2 (QB (some (iV r)) z h') z h 16 [some (aV ω x0), none] [] := by
  unfold Md_takes_b16 at hL
  refine ev_aload_n (pc := 16) (i := 0) dX10_takes_16 rfl rfl ?_
  obtain ⟨hs6, hL⟩ := cC_un hL
  obtain ⟨r7, h8, hc9, hL⟩ := cl_un hL
  refine evB_callV_I (pc := 17) (M_Md_fails hc9) dX10_takes_17 mt_Md_fails st_Md_fails ml_Md_134 hs6 (by decide) ⟨_, rfl, rfl⟩ (Nat.le_of_ble_eq_true rfl) rfl rfl (Nat.le_trans sm_z (by decide)) ?_
  exact evB_zret (pc := 20) dX10_takes_20 rfl rfl hL
set_option maxHeartbeats 1000000 in
set_option maxRecDepth 100000 in
theorem M_Md_takes {ω : Wd} {z : Nat → Prop} {h h' : Hp} {a0 a1 r : Int}  (hL : Md_takes h a0 a1 = some (r, h')) : CtB ω N_Md_takes 2 [aV ω a0, iV a1] z h (some (iV r)) h' := by
  unfold Md_takes at hL
  refine Ct_of (lv := [some (aV ω a0), some (iV a1)]) (by decide) (Nat.le_trans (sl_1 (cat_aV _ _) (sl_1 (cat_iV _) sl_z)) (Nat.le_of_ble_eq_true rfl)) (la_1 (cat_aV _ _) (la_1 (cat_iV _) la_z)) ?_
  refine ev_aload_n (pc := 0) (i := 0) dX10_takes_0 rfl rfl ?_
  obtain ⟨hs1, hL⟩ := cC_un hL
  refine ev_get (pc := 1) (c9 := 10) (k9 := 11) dX10_takes_1 fl_Md_128 (by decide) hs1 gv10_11 ?_
  refine ev_iconst (pc := 4) dX10_takes_4 ?_
  refine ev_icmp_ne (pc := 5) (tgt := 16) dX10_takes_5 rfl hL rfl (fun hL => ?_) (fun hL => ?_)
  · refine ev_aload_n (pc := 8) (i := 0) dX10_takes_8 rfl rfl ?_
    obtain ⟨r2, h3, hc4, hL⟩ := cl_un hL
    refine evB_callV_I (pc := 9) (M_Md_look hc4) dX10_takes_9 mt_Md_look st_Md_look ml_Md_138 hs1 (by decide) ⟨_, rfl, rfl⟩ (Nat.le_of_ble_eq_true rfl) rfl rfl (Nat.le_trans sm_z (by decide)) ?_
    refine ev_iload_n (pc := 12) (i := 1) dX10_takes_12 rfl rfl ?_
    refine ev_icmp_eq (pc := 13) (tgt := 21) dX10_takes_13 rfl hL rfl (fun hL => ?_) (fun hL => ?_)
    · refine ev_aload_n (pc := 21) (i := 0) dX10_takes_21 rfl rfl ?_
      refine ev_dup (pc := 22) dX10_takes_22 (cat_aV _ _) ?_
      refine ev_get (pc := 23) (c9 := 10) (k9 := 10) dX10_takes_23 fl_Md_119 (by decide) hs1 gv10_10 ?_
      refine ev_iconst (pc := 26) dX10_takes_26 ?_
      refine ev_iadd (pc := 27) dX10_takes_27 ?_
      refine evB_putI (pc := 28) (c9 := 10) (k9 := 10) (kI := 10) dX10_takes_28 fl_Md_119 hs1 (by decide) (fun q hq => by cases hq; rfl) rfl rfl rfl ?_
      refine ev_puG hL (fun h5 hL => ?_)
      refine ev_iconst (pc := 31) dX10_takes_31 ?_
      exact evB_zret (pc := 32) dX10_takes_32 rfl rfl hL
    · exact ev_le (lvle_s (lvle_n lvle_z)) (KMd_takes_b16  hL)
  · exact ev_le (lvle_s (lvle_n lvle_z)) (KMd_takes_b16  hL)
set_option maxHeartbeats 1000000 in
set_option maxRecDepth 100000 in
theorem M_Md_within {ω : Wd} {z : Nat → Prop} {h h' : Hp} {a0 r : Int}  (hL : Md_within h a0 = some (r, h')) : CtB ω N_Md_within 1 [lV a0] z h (some (iV r)) h' := by
  unfold Md_within at hL
  refine Ct_of (lv := [some (lV a0), none]) (by decide) (Nat.le_trans (sl_2 (cat_lV _) sl_z) (Nat.le_of_ble_eq_true rfl)) (la_2 (cat_lV _) la_z) ?_
  refine ev_ldc2 (pc := 0) (x := (-1000000)) dX10_within_0 w_l_Md_141 ?_
  refine ev_ldc2 (pc := 3) (x := 1000000) dX10_within_3 w_l_Md_143 ?_
  refine ev_lload_n (pc := 6) (i := 0) dX10_within_6 rfl rfl ?_
  refine ev_lmin (pc := 7) dX10_within_7 wm_Md_145 w_s_lmin w_i_Math w_k_lmin (Nat.le_trans (sm_2 (cat_lV _) sm_z) (by decide)) (Nat.le_of_ble_eq_true rfl) (Nat.le_refl _) (Nat.le_refl _) ?_
  refine ev_lmax (pc := 10) dX10_within_10 wm_Md_151 w_s_lmax w_i_Math w_k_lmax (Nat.le_trans sm_z (by decide)) (Nat.le_of_ble_eq_true rfl) (Nat.le_refl _) (Nat.le_refl _) ?_
  refine ev_l2i (pc := 13) dX10_within_13 ?_
  exact evB_iret (pc := 14) dX10_within_14 rfl hL
set_option maxHeartbeats 1000000 in
set_option maxRecDepth 100000 in
theorem KMd_atom_b90_body {ω : Wd} {z : Nat → Prop} {d0 : Nat} {kf : Hp × Int → Option (Int × Hp)}  {k90 : Hp × Int × Int × Int → Option (Int × Hp)} {h h' : Hp} {x0 x2 x3 r : Int} (hkf : ∀ s o, kf s = some o → CtB ω N_Md_sum d0 [aV ω s.2] z s.1 (some (iV o.1)) o.2) (hk90 : ∀ s o, k90 s = some o → EvB ω N_Md_atom (d0 + 6) (QB (some (iV o.1)) z o.2) z s.1 90 [some (aV ω s.2.1), none, some (iV s.2.2.1), some (iV s.2.2.2)] []) (hL : Md_atom_b90_body kf k90 h x0 x2 x3 = some (r, h')) : EvB ω N_Md_atom (d0 + 6) (QB (some (iV r)) z h') z h 90 [some (aV ω x0), none, some (iV x2), some (iV x3)] [] := by
  unfold Md_atom_b90_body at hL
  refine ev_aload_n (pc := 90) (i := 0) dX10_atom_90 rfl rfl ?_
  obtain ⟨hs24, hL⟩ := cC_un hL
  obtain ⟨r25, h26, hc27, hL⟩ := cl_un hL
  refine evB_callV_I (pc := 91) (M_Md_isDigit hc27) dX10_atom_91 mt_Md_isDigit st_Md_isDigit ml_Md_168 hs24 (by decide) ⟨_, rfl, rfl⟩ (by omega) rfl rfl (Nat.le_trans sm_z (by decide)) ?_
  refine ev_if_eq (pc := 94) (tgt := 156) dX10_atom_94 rfl hL rfl (fun hL => ?_) (fun hL => ?_)
  · refine ev_iload_n (pc := 156) (i := 2) dX10_atom_156 rfl rfl ?_
    exact evB_iret (pc := 157) dX10_atom_157 rfl hL
  · refine ev_aload_n (pc := 97) (i := 0) dX10_atom_97 rfl rfl ?_
    refine ev_get (pc := 98) (c9 := 10) (k9 := 11) dX10_atom_98 fl_Md_128 (by decide) hs24 gv10_11 ?_
    refine ev_iconst (pc := 101) dX10_atom_101 ?_
    refine ev_icmp_ne (pc := 102) (tgt := 156) dX10_atom_102 rfl hL rfl (fun hL => ?_) (fun hL => ?_)
    · refine ev_iload_n (pc := 105) (i := 3) dX10_atom_105 rfl rfl ?_
      refine ev_iconst (pc := 106) dX10_atom_106 ?_
      refine ev_icmp_ne (pc := 107) (tgt := 117) dX10_atom_107 rfl hL rfl (fun hL => ?_) (fun hL => ?_)
      · refine ev_aload_n (pc := 110) (i := 0) dX10_atom_110 rfl rfl ?_
        obtain ⟨r28, h29, hc30, hL⟩ := cl_un hL
        refine evB_callV_I (pc := 111) (M_Md_fails hc30) dX10_atom_111 mt_Md_fails st_Md_fails ml_Md_134 hs24 (by decide) ⟨_, rfl, rfl⟩ (by omega) rfl rfl (Nat.le_trans sm_z (by decide)) ?_
        refine ev_pop (pc := 114) dX10_atom_114 rfl ?_
        refine ev_iconst (pc := 115) dX10_atom_115 ?_
        exact evB_iret (pc := 116) dX10_atom_116 rfl hL
      · refine ev_bipush (pc := 117) dX10_atom_117 (by decide) ?_
        refine ev_iload_n (pc := 119) (i := 2) dX10_atom_119 rfl rfl ?_
        refine ev_imul (pc := 120) dX10_atom_120 ?_
        refine ev_aload_n (pc := 121) (i := 0) dX10_atom_121 rfl rfl ?_
        refine ev_get (pc := 122) (c9 := 10) (k9 := 5) dX10_atom_122 fl_Md_23 (by decide) hs24 gv10_5 ?_
        refine ev_aload_n (pc := 125) (i := 0) dX10_atom_125 rfl rfl ?_
        refine ev_get (pc := 126) (c9 := 10) (k9 := 8) dX10_atom_126 fl_Md_125 (by decide) hs24 gv10_8 ?_
        refine ev_aload_n (pc := 129) (i := 0) dX10_atom_129 rfl rfl ?_
        refine ev_get (pc := 130) (c9 := 10) (k9 := 10) dX10_atom_130 fl_Md_119 (by decide) hs24 gv10_10 ?_
        refine ev_iadd (pc := 133) dX10_atom_133 ?_
        obtain ⟨q31a, q31b, q31c, hL⟩ := cX_un hL
        refine ev_bald (pc := 134) dX10_atom_134 q31a q31b q31c ?_
        refine ev_iadd (pc := 135) dX10_atom_135 ?_
        refine ev_bipush (pc := 136) dX10_atom_136 (by decide) ?_
        refine ev_isub (pc := 138) dX10_atom_138 ?_
        refine ev_bdI hL (fun v32 hL => ?_)
        refine ev_istore_n (pc := 139) (i := 2) dX10_atom_139 rfl (lnl_n rfl) (Nat.le_of_ble_eq_true rfl) ?_
        refine ev_aload_n (pc := 140) (i := 0) dX10_atom_140 rfl rfl ?_
        refine ev_dup (pc := 141) dX10_atom_141 (cat_aV _ _) ?_
        refine ev_get (pc := 142) (c9 := 10) (k9 := 10) dX10_atom_142 fl_Md_119 (by decide) hs24 gv10_10 ?_
        refine ev_iconst (pc := 145) dX10_atom_145 ?_
        refine ev_iadd (pc := 146) dX10_atom_146 ?_
        refine evB_putI (pc := 147) (c9 := 10) (k9 := 10) (kI := 10) dX10_atom_147 fl_Md_119 hs24 (by decide) (fun q hq => by cases hq; rfl) rfl rfl rfl ?_
        refine ev_puG hL (fun h33 hL => ?_)
        refine ev_iinc (pc := 150) dX10_atom_150 rfl (lnl_v rfl rfl) (Nat.le_of_ble_eq_true rfl) ?_
        refine ev_goto (pc := 153) (tgt := 90) dX10_atom_153 rfl ?_
        exact ev_le (lvle_s (lvle_n (lvle_s (lvle_s lvle_z)))) (hk90 _ _ hL)
    · refine ev_iload_n (pc := 156) (i := 2) dX10_atom_156 rfl rfl ?_
      exact evB_iret (pc := 157) dX10_atom_157 rfl hL
set_option maxHeartbeats 1000000 in
set_option maxRecDepth 100000 in
theorem KMd_atom_b90 {ω : Wd} {z : Nat → Prop} {d0 : Nat} {kf : Hp × Int → Option (Int × Hp)}  {h h' : Hp} {x0 x2 x3 r : Int} (hkf : ∀ s o, kf s = some o → CtB ω N_Md_sum d0 [aV ω s.2] z s.1 (some (iV o.1)) o.2) (hL : Md_atom_b90 kf h x0 x2 x3 = some (r, h')) : EvB ω N_Md_atom (d0 + 6) (QB (some (iV r)) z h') z h 90 [some (aV ω x0), none, some (iV x2), some (iV x3)] [] := by
  unfold Md_atom_b90 at hL
  refine itr_link (P := fun (s : Hp × Int × Int × Int) (o : Int × Hp) => EvB ω N_Md_atom (d0 + 6) (QB (some (iV o.1)) z o.2) z s.1 90 [some (aV ω s.2.1), none, some (iV s.2.2.1), some (iV s.2.2.2)] []) ?_ _ _ _ hL
  intro k hk s o h9
  have h10 := KMd_atom_b90_body (ω := ω) (z := z) (d0 := d0) (kf := kf) (k90 := k) (h := s.1) (x0 := s.2.1) (x2 := s.2.2.1) (x3 := s.2.2.2) (r := o.1) (h' := o.2) hkf
  exact h10 hk h9
set_option maxHeartbeats 1000000 in
set_option maxRecDepth 100000 in
theorem MB_Md_atom {ω : Wd} {z : Nat → Prop} {d0 : Nat} {kf : Hp × Int → Option (Int × Hp)} {h h' : Hp} {a0 r : Int} (hkf : ∀ s o, kf s = some o → CtB ω N_Md_sum d0 [aV ω s.2] z s.1 (some (iV o.1)) o.2) (hL : Md_atom kf h a0 = some (r, h')) : CtB ω N_Md_atom (d0 + 6) [aV ω a0] z h (some (iV r)) h' := by
  unfold Md_atom at hL
  refine Ct_of (lv := [some (aV ω a0), none, none, none]) (by decide) (Nat.le_trans (sl_1 (cat_aV _ _) sl_z) (Nat.le_of_ble_eq_true rfl)) (la_1 (cat_aV _ _) (la_n (la_n (la_n la_z)))) ?_
  refine ev_aload_n (pc := 0) (i := 0) dX10_atom_0 rfl rfl ?_
  obtain ⟨hs1, hL⟩ := cC_un hL
  obtain ⟨r2, h3, hc4, hL⟩ := cl_un hL
  refine evB_callV_I (pc := 1) (M_Md_look hc4) dX10_atom_1 mt_Md_look st_Md_look ml_Md_138 hs1 (by decide) ⟨_, rfl, rfl⟩ (by omega) rfl rfl (Nat.le_trans sm_z (by decide)) ?_
  refine ev_istore_n (pc := 4) (i := 1) dX10_atom_4 rfl (lnl_v (cat_aV _ _) rfl) (Nat.le_of_ble_eq_true rfl) ?_
  refine ev_ldcS (pc := 5) (n := 2) (by decide) rfl rfl dX10_atom_5 ?_
  refine ev_iload_n (pc := 7) (i := 1) dX10_atom_7 rfl rfl ?_
  obtain ⟨r5, h6, hc7, hL⟩ := cl_un hL
  refine evB_callS_I (pc := 8) (M_Md_isAmong hc7) dX10_atom_8 mt_Md_isAmong st_Md_isAmong ml_Md_154 (by omega) rfl rfl (Nat.le_trans sm_z (by decide)) ?_
  refine ev_if_eq (pc := 11) (tgt := 31) dX10_atom_11 rfl hL rfl (fun hL => ?_) (fun hL => ?_)
  · refine ev_iload_n (pc := 31) (i := 1) dX10_atom_31 rfl rfl ?_
    refine ev_bipush (pc := 32) dX10_atom_32 (by decide) ?_
    refine ev_icmp_ne (pc := 34) (tgt := 74) dX10_atom_34 rfl hL rfl (fun hL => ?_) (fun hL => ?_)
    · refine ev_aload_n (pc := 37) (i := 0) dX10_atom_37 rfl rfl ?_
      obtain ⟨r8, h9, hc10, hL⟩ := cl_un hL
      refine evB_callV_I (pc := 38) (M_Md_goesIn hc10) dX10_atom_38 mt_Md_goesIn st_Md_goesIn ml_Md_158 hs1 (by decide) ⟨_, rfl, rfl⟩ (by omega) rfl rfl (Nat.le_trans sm_z (by decide)) ?_
      refine ev_if_ne (pc := 41) (tgt := 46) dX10_atom_41 rfl hL rfl (fun hL => ?_) (fun hL => ?_)
      · refine ev_iconst (pc := 44) dX10_atom_44 ?_
        exact evB_iret (pc := 45) dX10_atom_45 rfl hL
      · refine ev_aload_n (pc := 46) (i := 0) dX10_atom_46 rfl rfl ?_
        obtain ⟨r11, h12, hc13, hL⟩ := cl_un hL
        refine evB_callV_I (pc := 47) (hkf _ _ hc13) dX10_atom_47 mt_Md_sum st_Md_sum ml_Md_161 hs1 (by decide) ⟨_, rfl, rfl⟩ (by omega) rfl rfl (Nat.le_trans sm_z (by decide)) ?_
        refine ev_istore_n (pc := 50) (i := 2) dX10_atom_50 rfl (lnl_v rfl rfl) (Nat.le_of_ble_eq_true rfl) ?_
        refine ev_aload_n (pc := 51) (i := 0) dX10_atom_51 rfl rfl ?_
        refine ev_bipush (pc := 52) dX10_atom_52 (by decide) ?_
        obtain ⟨r14, h15, hc16, hL⟩ := cl_un hL
        refine evB_callV_I (pc := 54) (M_Md_takes hc16) dX10_atom_54 mt_Md_takes st_Md_takes ml_Md_164 hs1 (by decide) ⟨_, rfl, rfl⟩ (by omega) rfl rfl (Nat.le_trans sm_z (by decide)) ?_
        refine ev_if_ne (pc := 57) (tgt := 62) dX10_atom_57 rfl hL rfl (fun hL => ?_) (fun hL => ?_)
        · refine ev_iconst (pc := 60) dX10_atom_60 ?_
          exact evB_iret (pc := 61) dX10_atom_61 rfl hL
        · refine ev_aload_n (pc := 62) (i := 0) dX10_atom_62 rfl rfl ?_
          refine ev_dup (pc := 63) dX10_atom_63 (cat_aV _ _) ?_
          refine ev_get (pc := 64) (c9 := 10) (k9 := 12) dX10_atom_64 fl_Md_131 (by decide) hs1 gv10_12 ?_
          refine ev_iconst (pc := 67) dX10_atom_67 ?_
          refine ev_isub (pc := 68) dX10_atom_68 ?_
          refine evB_putI (pc := 69) (c9 := 10) (k9 := 12) (kI := 12) dX10_atom_69 fl_Md_131 hs1 (by decide) (fun q hq => by cases hq; rfl) rfl rfl rfl ?_
          refine ev_puG hL (fun h17 hL => ?_)
          refine ev_iload_n (pc := 72) (i := 2) dX10_atom_72 rfl rfl ?_
          exact evB_iret (pc := 73) dX10_atom_73 rfl hL
    · refine ev_aload_n (pc := 74) (i := 0) dX10_atom_74 rfl rfl ?_
      obtain ⟨r18, h19, hc20, hL⟩ := cl_un hL
      refine evB_callV_I (pc := 75) (M_Md_isDigit hc20) dX10_atom_75 mt_Md_isDigit st_Md_isDigit ml_Md_168 hs1 (by decide) ⟨_, rfl, rfl⟩ (by omega) rfl rfl (Nat.le_trans sm_z (by decide)) ?_
      refine ev_if_ne (pc := 78) (tgt := 86) dX10_atom_78 rfl hL rfl (fun hL => ?_) (fun hL => ?_)
      · refine ev_aload_n (pc := 81) (i := 0) dX10_atom_81 rfl rfl ?_
        obtain ⟨r21, h22, hc23, hL⟩ := cl_un hL
        refine evB_callV_I (pc := 82) (M_Md_fails hc23) dX10_atom_82 mt_Md_fails st_Md_fails ml_Md_134 hs1 (by decide) ⟨_, rfl, rfl⟩ (by omega) rfl rfl (Nat.le_trans sm_z (by decide)) ?_
        refine ev_pop (pc := 85) dX10_atom_85 rfl ?_
        refine ev_iconst (pc := 86) dX10_atom_86 ?_
        refine ev_istore_n (pc := 87) (i := 2) dX10_atom_87 rfl (lnl_v rfl rfl) (Nat.le_of_ble_eq_true rfl) ?_
        refine ev_iconst (pc := 88) dX10_atom_88 ?_
        refine ev_istore_n (pc := 89) (i := 3) dX10_atom_89 rfl (lnl_v rfl rfl) (Nat.le_of_ble_eq_true rfl) ?_
        exact ev_le (lvle_s (lvle_n (lvle_s (lvle_s lvle_z)))) (KMd_atom_b90 hkf hL)
      · refine ev_iconst (pc := 86) dX10_atom_86 ?_
        refine ev_istore_n (pc := 87) (i := 2) dX10_atom_87 rfl (lnl_v rfl rfl) (Nat.le_of_ble_eq_true rfl) ?_
        refine ev_iconst (pc := 88) dX10_atom_88 ?_
        refine ev_istore_n (pc := 89) (i := 3) dX10_atom_89 rfl (lnl_v rfl rfl) (Nat.le_of_ble_eq_true rfl) ?_
        exact ev_le (lvle_s (lvle_n (lvle_s (lvle_s lvle_z)))) (KMd_atom_b90 hkf hL)
  · refine ev_aload_n (pc := 14) (i := 0) dX10_atom_14 rfl rfl ?_
    refine ev_dup (pc := 15) dX10_atom_15 (cat_aV _ _) ?_
    refine ev_get (pc := 16) (c9 := 10) (k9 := 10) dX10_atom_16 fl_Md_119 (by decide) hs1 gv10_10 ?_
    refine ev_iconst (pc := 19) dX10_atom_19 ?_
    refine ev_iadd (pc := 20) dX10_atom_20 ?_
    refine evB_putI (pc := 21) (c9 := 10) (k9 := 10) (kI := 10) dX10_atom_21 fl_Md_119 hs1 (by decide) (fun q hq => by cases hq; rfl) rfl rfl rfl ?_
    refine ev_puG hL (fun h34 hL => ?_)
    refine ev_aload_n (pc := 24) (i := 0) dX10_atom_24 rfl rfl ?_
    refine ev_get (pc := 25) (c9 := 10) (k9 := 4) dX10_atom_25 fl_Md_20 (by decide) hs1 (gv10_4 hs1) ?_
    refine ev_iload_n (pc := 28) (i := 1) dX10_atom_28 rfl rfl ?_
    obtain ⟨q35a, q35b, q35c, hL⟩ := cX_un hL
    refine ev_iald (pc := 29) dX10_atom_29 q35a q35b q35c ?_
    exact evB_iret (pc := 30) dX10_atom_30 rfl hL
set_option maxHeartbeats 1000000 in
set_option maxRecDepth 100000 in
theorem KMd_term_b87 {ω : Wd} {z : Nat → Prop} {d0 : Nat} {kf : Hp × Int → Option (Int × Hp)} {k5 : Hp × Int × Int → Option (Int × Hp)} {h h' : Hp} {x0 y0 r : Int} (hkf : ∀ s o, kf s = some o → CtB ω N_Md_sum d0 [aV ω s.2] z s.1 (some (iV o.1)) o.2) (hk5 : ∀ s o, k5 s = some o → EvB ω N_Md_term (d0 + 7) (QB (some (iV o.1)) z o.2) z s.1 5 [some (aV ω s.2.1), some (iV s.2.2), none, none, none] []) (hL : Md_term_b87 kf k5 h x0 y0 = some (r, h')) : EvB ω N_Md_term (d0 + 7) (QB (some (iV r)) z h') z h 87 [some (aV ω x0), none, none, none, none] [lV y0] := by
  unfold Md_term_b87 at hL
  obtain ⟨r19, h20, hc21, hL⟩ := cl_un hL
  refine evB_callS_I (pc := 87) (M_Md_within hc21) dX10_term_87 mt_Md_within st_Md_within ml_Md_174 (by omega) rfl rfl (Nat.le_trans sm_z (by decide)) ?_
  refine ev_istore_n (pc := 90) (i := 1) dX10_term_90 rfl (lnl_v (cat_aV _ _) rfl) (Nat.le_of_ble_eq_true rfl) ?_
  refine ev_goto (pc := 91) (tgt := 5) dX10_term_91 rfl ?_
  exact ev_le (lvle_s (lvle_s (lvle_n (lvle_n (lvle_n lvle_z))))) (hk5 _ _ hL)
set_option maxHeartbeats 1000000 in
set_option maxRecDepth 100000 in
theorem KMd_term_b45 {ω : Wd} {z : Nat → Prop} {d0 : Nat} {kf : Hp × Int → Option (Int × Hp)} {k5 : Hp × Int × Int → Option (Int × Hp)} {h h' : Hp} {x0 x1 y0 r : Int} (hkf : ∀ s o, kf s = some o → CtB ω N_Md_sum d0 [aV ω s.2] z s.1 (some (iV o.1)) o.2) (hk5 : ∀ s o, k5 s = some o → EvB ω N_Md_term (d0 + 7) (QB (some (iV o.1)) z o.2) z s.1 5 [some (aV ω s.2.1), some (iV s.2.2), none, none, none] []) (hL : Md_term_b45 kf k5 h x0 x1 y0 = some (r, h')) : EvB ω N_Md_term (d0 + 7) (QB (some (iV r)) z h') z h 45 [some (aV ω x0), some (iV x1), none, none, none] [iV y0] := by
  unfold Md_term_b45 at hL
  refine ev_istore_n (pc := 45) (i := 2) dX10_term_45 rfl (lnl_v rfl rfl) (Nat.le_of_ble_eq_true rfl) ?_
  refine ev_aload_n (pc := 46) (i := 0) dX10_term_46 rfl rfl ?_
  refine ev_dup (pc := 47) dX10_term_47 (cat_aV _ _) ?_
  obtain ⟨hs13, hL⟩ := cC_un hL
  refine ev_get (pc := 48) (c9 := 10) (k9 := 10) dX10_term_48 fl_Md_119 (by decide) hs13 gv10_10 ?_
  refine ev_iconst (pc := 51) dX10_term_51 ?_
  refine ev_iadd (pc := 52) dX10_term_52 ?_
  refine evB_putI (pc := 53) (c9 := 10) (k9 := 10) (kI := 10) dX10_term_53 fl_Md_119 hs13 (by decide) (fun q hq => by cases hq; rfl) rfl rfl rfl ?_
  refine ev_puG hL (fun h14 hL => ?_)
  refine ev_aload_n (pc := 56) (i := 0) dX10_term_56 rfl rfl ?_
  obtain ⟨r15, h16, hc17, hL⟩ := cl_un hL
  refine evB_callV_I (pc := 57) (MB_Md_atom hkf hc17) dX10_term_57 mt_Md_atom st_Md_atom ml_Md_171 hs13 (by decide) ⟨_, rfl, rfl⟩ (by omega) rfl rfl (Nat.le_trans sm_z (by decide)) ?_
  refine ev_i2l (pc := 60) dX10_term_60 ?_
  refine ev_bdL hL (fun v18 hL => ?_)
  refine ev_lstore_n (pc := 61) (i := 3) dX10_term_61 rfl (lnl_v rfl rfl) (Nat.le_of_ble_eq_true rfl) ?_
  refine ev_iload_n (pc := 62) (i := 2) dX10_term_62 rfl rfl ?_
  refine ev_if_eq (pc := 63) (tgt := 73) dX10_term_63 rfl hL rfl (fun hL => ?_) (fun hL => ?_)
  · refine ev_lload_n (pc := 73) (i := 3) dX10_term_73 rfl rfl ?_
    refine ev_lconst (pc := 74) (x := 0) dX10_term_74 rfl ?_
    refine ev_lcmp (pc := 75) dX10_term_75 ?_
    refine ev_if_ne (pc := 76) (tgt := 83) dX10_term_76 rfl hL rfl (fun hL => ?_) (fun hL => ?_)
    · refine ev_lconst (pc := 79) (x := 0) dX10_term_79 rfl ?_
      refine ev_goto (pc := 80) (tgt := 87) dX10_term_80 rfl ?_
      exact ev_le (lvle_s (lvle_n (lvle_n (lvle_n (lvle_n lvle_z))))) (KMd_term_b87 hkf hk5 hL)
    · refine ev_iload_n (pc := 83) (i := 1) dX10_term_83 rfl rfl ?_
      refine ev_i2l (pc := 84) dX10_term_84 ?_
      refine ev_lload_n (pc := 85) (i := 3) dX10_term_85 rfl rfl ?_
      refine ev_ldiv (pc := 86) dX10_term_86 hL (fun hL => ?_)
      exact ev_le (lvle_s (lvle_n (lvle_n (lvle_n (lvle_n lvle_z))))) (KMd_term_b87 hkf hk5 hL)
  · refine ev_iload_n (pc := 66) (i := 1) dX10_term_66 rfl rfl ?_
    refine ev_i2l (pc := 67) dX10_term_67 ?_
    refine ev_lload_n (pc := 68) (i := 3) dX10_term_68 rfl rfl ?_
    refine ev_lmul (pc := 69) dX10_term_69 ?_
    refine ev_goto (pc := 70) (tgt := 87) dX10_term_70 rfl ?_
    exact ev_le (lvle_s (lvle_n (lvle_n (lvle_n (lvle_n lvle_z))))) (KMd_term_b87 hkf hk5 hL)
set_option maxHeartbeats 1000000 in
set_option maxRecDepth 100000 in
theorem KMd_term_b31 {ω : Wd} {z : Nat → Prop} {d0 : Nat} {kf : Hp × Int → Option (Int × Hp)} {k5 : Hp × Int × Int → Option (Int × Hp)} {h h' : Hp} {x0 x1 r : Int} (hkf : ∀ s o, kf s = some o → CtB ω N_Md_sum d0 [aV ω s.2] z s.1 (some (iV o.1)) o.2) (hk5 : ∀ s o, k5 s = some o → EvB ω N_Md_term (d0 + 7) (QB (some (iV o.1)) z o.2) z s.1 5 [some (aV ω s.2.1), some (iV s.2.2), none, none, none] []) (hL : Md_term_b31 kf k5 h x0 x1 = some (r, h')) : EvB ω N_Md_term (d0 + 7) (QB (some (iV r)) z h') z h 31 [some (aV ω x0), some (iV x1), none, none, none] [] := by
  unfold Md_term_b31 at hL
  refine ev_aload_n (pc := 31) (i := 0) dX10_term_31 rfl rfl ?_
  obtain ⟨hs9, hL⟩ := cC_un hL
  obtain ⟨r10, h11, hc12, hL⟩ := cl_un hL
  refine evB_callV_I (pc := 32) (M_Md_look hc12) dX10_term_32 mt_Md_look st_Md_look ml_Md_138 hs9 (by decide) ⟨_, rfl, rfl⟩ (by omega) rfl rfl (Nat.le_trans sm_z (by decide)) ?_
  refine ev_bipush (pc := 35) dX10_term_35 (by decide) ?_
  refine ev_icmp_ne (pc := 37) (tgt := 44) dX10_term_37 rfl hL rfl (fun hL => ?_) (fun hL => ?_)
  · refine ev_iconst (pc := 40) dX10_term_40 ?_
    refine ev_goto (pc := 41) (tgt := 45) dX10_term_41 rfl ?_
    exact ev_le (lvle_s (lvle_s (lvle_n (lvle_n (lvle_n lvle_z))))) (KMd_term_b45 hkf hk5 hL)
  · refine ev_iconst (pc := 44) dX10_term_44 ?_
    exact ev_le (lvle_s (lvle_s (lvle_n (lvle_n (lvle_n lvle_z))))) (KMd_term_b45 hkf hk5 hL)
set_option maxHeartbeats 1000000 in
set_option maxRecDepth 100000 in
theorem KMd_term_b5_body {ω : Wd} {z : Nat → Prop} {d0 : Nat} {kf : Hp × Int → Option (Int × Hp)}  {k5 : Hp × Int × Int → Option (Int × Hp)} {h h' : Hp} {x0 x1 r : Int} (hkf : ∀ s o, kf s = some o → CtB ω N_Md_sum d0 [aV ω s.2] z s.1 (some (iV o.1)) o.2) (hk5 : ∀ s o, k5 s = some o → EvB ω N_Md_term (d0 + 7) (QB (some (iV o.1)) z o.2) z s.1 5 [some (aV ω s.2.1), some (iV s.2.2), none, none, none] []) (hL : Md_term_b5_body kf k5 h x0 x1 = some (r, h')) : EvB ω N_Md_term (d0 + 7) (QB (some (iV r)) z h') z h 5 [some (aV ω x0), some (iV x1), none, none, none] [] := by
  unfold Md_term_b5_body at hL
  refine ev_aload_n (pc := 5) (i := 0) dX10_term_5 rfl rfl ?_
  obtain ⟨hs5, hL⟩ := cC_un hL
  refine ev_get (pc := 6) (c9 := 10) (k9 := 11) dX10_term_6 fl_Md_128 (by decide) hs5 gv10_11 ?_
  refine ev_iconst (pc := 9) dX10_term_9 ?_
  refine ev_icmp_ne (pc := 10) (tgt := 94) dX10_term_10 rfl hL rfl (fun hL => ?_) (fun hL => ?_)
  · refine ev_aload_n (pc := 13) (i := 0) dX10_term_13 rfl rfl ?_
    obtain ⟨r6, h7, hc8, hL⟩ := cl_un hL
    refine evB_callV_I (pc := 14) (M_Md_look hc8) dX10_term_14 mt_Md_look st_Md_look ml_Md_138 hs5 (by decide) ⟨_, rfl, rfl⟩ (by omega) rfl rfl (Nat.le_trans sm_z (by decide)) ?_
    refine ev_bipush (pc := 17) dX10_term_17 (by decide) ?_
    refine ev_icmp_eq (pc := 19) (tgt := 31) dX10_term_19 rfl hL rfl (fun hL => ?_) (fun hL => ?_)
    · exact ev_le (lvle_s (lvle_s (lvle_n (lvle_n (lvle_n lvle_z))))) (KMd_term_b31 hkf hk5 hL)
    · refine ev_aload_n (pc := 22) (i := 0) dX10_term_22 rfl rfl ?_
      obtain ⟨r22, h23, hc24, hL⟩ := cl_un hL
      refine evB_callV_I (pc := 23) (M_Md_look hc24) dX10_term_23 mt_Md_look st_Md_look ml_Md_138 hs5 (by decide) ⟨_, rfl, rfl⟩ (by omega) rfl rfl (Nat.le_trans sm_z (by decide)) ?_
      refine ev_bipush (pc := 26) dX10_term_26 (by decide) ?_
      refine ev_icmp_ne (pc := 28) (tgt := 94) dX10_term_28 rfl hL rfl (fun hL => ?_) (fun hL => ?_)
      · exact ev_le (lvle_s (lvle_s (lvle_n (lvle_n (lvle_n lvle_z))))) (KMd_term_b31 hkf hk5 hL)
      · refine ev_iload_n (pc := 94) (i := 1) dX10_term_94 rfl rfl ?_
        exact evB_iret (pc := 95) dX10_term_95 rfl hL
  · refine ev_iload_n (pc := 94) (i := 1) dX10_term_94 rfl rfl ?_
    exact evB_iret (pc := 95) dX10_term_95 rfl hL
set_option maxHeartbeats 1000000 in
set_option maxRecDepth 100000 in
theorem KMd_term_b5 {ω : Wd} {z : Nat → Prop} {d0 : Nat} {kf : Hp × Int → Option (Int × Hp)}  {h h' : Hp} {x0 x1 r : Int} (hkf : ∀ s o, kf s = some o → CtB ω N_Md_sum d0 [aV ω s.2] z s.1 (some (iV o.1)) o.2) (hL : Md_term_b5 kf h x0 x1 = some (r, h')) : EvB ω N_Md_term (d0 + 7) (QB (some (iV r)) z h') z h 5 [some (aV ω x0), some (iV x1), none, none, none] [] := by
  unfold Md_term_b5 at hL
  refine itr_link (P := fun (s : Hp × Int × Int) (o : Int × Hp) => EvB ω N_Md_term (d0 + 7) (QB (some (iV o.1)) z o.2) z s.1 5 [some (aV ω s.2.1), some (iV s.2.2), none, none, none] []) ?_ _ _ _ hL
  intro k hk s o h9
  have h10 := KMd_term_b5_body (ω := ω) (z := z) (d0 := d0) (kf := kf) (k5 := k) (h := s.1) (x0 := s.2.1) (x1 := s.2.2) (r := o.1) (h' := o.2) hkf
  exact h10 hk h9
set_option maxHeartbeats 1000000 in
set_option maxRecDepth 100000 in
theorem MB_Md_term {ω : Wd} {z : Nat → Prop} {d0 : Nat} {kf : Hp × Int → Option (Int × Hp)} {h h' : Hp} {a0 r : Int} (hkf : ∀ s o, kf s = some o → CtB ω N_Md_sum d0 [aV ω s.2] z s.1 (some (iV o.1)) o.2) (hL : Md_term kf h a0 = some (r, h')) : CtB ω N_Md_term (d0 + 7) [aV ω a0] z h (some (iV r)) h' := by
  unfold Md_term at hL
  refine Ct_of (lv := [some (aV ω a0), none, none, none, none]) (by decide) (Nat.le_trans (sl_1 (cat_aV _ _) sl_z) (Nat.le_of_ble_eq_true rfl)) (la_1 (cat_aV _ _) (la_n (la_n (la_n (la_n la_z))))) ?_
  refine ev_aload_n (pc := 0) (i := 0) dX10_term_0 rfl rfl ?_
  obtain ⟨hs1, hL⟩ := cC_un hL
  obtain ⟨r2, h3, hc4, hL⟩ := cl_un hL
  refine evB_callV_I (pc := 1) (MB_Md_atom hkf hc4) dX10_term_1 mt_Md_atom st_Md_atom ml_Md_171 hs1 (by decide) ⟨_, rfl, rfl⟩ (by omega) rfl rfl (Nat.le_trans sm_z (by decide)) ?_
  refine ev_istore_n (pc := 4) (i := 1) dX10_term_4 rfl (lnl_v (cat_aV _ _) rfl) (Nat.le_of_ble_eq_true rfl) ?_
  exact ev_le (lvle_s (lvle_s (lvle_n (lvle_n (lvle_n lvle_z))))) (KMd_term_b5 hkf hL)
set_option maxHeartbeats 1000000 in
set_option maxRecDepth 100000 in
theorem KMd_sum_b77 {ω : Wd} {z : Nat → Prop} {d0 : Nat} {kf : Hp × Int → Option (Int × Hp)} {k5 : Hp × Int × Int → Option (Int × Hp)} {h h' : Hp} {x0 y0 r : Int} (hkf : ∀ s o, kf s = some o → CtB ω N_Md_sum d0 [aV ω s.2] z s.1 (some (iV o.1)) o.2) (hk5 : ∀ s o, k5 s = some o → EvB ω N_Md_sum (d0 + 8) (QB (some (iV o.1)) z o.2) z s.1 5 [some (aV ω s.2.1), some (iV s.2.2), none, none, none] []) (hL : Md_sum_b77 kf k5 h x0 y0 = some (r, h')) : EvB ω N_Md_sum (d0 + 8) (QB (some (iV r)) z h') z h 77 [some (aV ω x0), none, none, none, none] [lV y0] := by
  unfold Md_sum_b77 at hL
  obtain ⟨r19, h20, hc21, hL⟩ := cl_un hL
  refine evB_callS_I (pc := 77) (M_Md_within hc21) dX10_sum_77 mt_Md_within st_Md_within ml_Md_174 (by omega) rfl rfl (Nat.le_trans sm_z (by decide)) ?_
  refine ev_istore_n (pc := 80) (i := 1) dX10_sum_80 rfl (lnl_v (cat_aV _ _) rfl) (Nat.le_of_ble_eq_true rfl) ?_
  refine ev_goto (pc := 81) (tgt := 5) dX10_sum_81 rfl ?_
  exact ev_le (lvle_s (lvle_s (lvle_n (lvle_n (lvle_n lvle_z))))) (hk5 _ _ hL)
set_option maxHeartbeats 1000000 in
set_option maxRecDepth 100000 in
theorem KMd_sum_b45 {ω : Wd} {z : Nat → Prop} {d0 : Nat} {kf : Hp × Int → Option (Int × Hp)} {k5 : Hp × Int × Int → Option (Int × Hp)} {h h' : Hp} {x0 x1 y0 r : Int} (hkf : ∀ s o, kf s = some o → CtB ω N_Md_sum d0 [aV ω s.2] z s.1 (some (iV o.1)) o.2) (hk5 : ∀ s o, k5 s = some o → EvB ω N_Md_sum (d0 + 8) (QB (some (iV o.1)) z o.2) z s.1 5 [some (aV ω s.2.1), some (iV s.2.2), none, none, none] []) (hL : Md_sum_b45 kf k5 h x0 x1 y0 = some (r, h')) : EvB ω N_Md_sum (d0 + 8) (QB (some (iV r)) z h') z h 45 [some (aV ω x0), some (iV x1), none, none, none] [iV y0] := by
  unfold Md_sum_b45 at hL
  refine ev_istore_n (pc := 45) (i := 2) dX10_sum_45 rfl (lnl_v rfl rfl) (Nat.le_of_ble_eq_true rfl) ?_
  refine ev_aload_n (pc := 46) (i := 0) dX10_sum_46 rfl rfl ?_
  refine ev_dup (pc := 47) dX10_sum_47 (cat_aV _ _) ?_
  obtain ⟨hs13, hL⟩ := cC_un hL
  refine ev_get (pc := 48) (c9 := 10) (k9 := 10) dX10_sum_48 fl_Md_119 (by decide) hs13 gv10_10 ?_
  refine ev_iconst (pc := 51) dX10_sum_51 ?_
  refine ev_iadd (pc := 52) dX10_sum_52 ?_
  refine evB_putI (pc := 53) (c9 := 10) (k9 := 10) (kI := 10) dX10_sum_53 fl_Md_119 hs13 (by decide) (fun q hq => by cases hq; rfl) rfl rfl rfl ?_
  refine ev_puG hL (fun h14 hL => ?_)
  refine ev_aload_n (pc := 56) (i := 0) dX10_sum_56 rfl rfl ?_
  obtain ⟨r15, h16, hc17, hL⟩ := cl_un hL
  refine evB_callV_I (pc := 57) (MB_Md_term hkf hc17) dX10_sum_57 mt_Md_term st_Md_term ml_Md_178 hs13 (by decide) ⟨_, rfl, rfl⟩ (by omega) rfl rfl (Nat.le_trans sm_z (by decide)) ?_
  refine ev_i2l (pc := 60) dX10_sum_60 ?_
  refine ev_bdL hL (fun v18 hL => ?_)
  refine ev_lstore_n (pc := 61) (i := 3) dX10_sum_61 rfl (lnl_v rfl rfl) (Nat.le_of_ble_eq_true rfl) ?_
  refine ev_iload_n (pc := 62) (i := 2) dX10_sum_62 rfl rfl ?_
  refine ev_if_eq (pc := 63) (tgt := 73) dX10_sum_63 rfl hL rfl (fun hL => ?_) (fun hL => ?_)
  · refine ev_iload_n (pc := 73) (i := 1) dX10_sum_73 rfl rfl ?_
    refine ev_i2l (pc := 74) dX10_sum_74 ?_
    refine ev_lload_n (pc := 75) (i := 3) dX10_sum_75 rfl rfl ?_
    refine ev_lsub (pc := 76) dX10_sum_76 ?_
    exact ev_le (lvle_s (lvle_n (lvle_n (lvle_n (lvle_n lvle_z))))) (KMd_sum_b77 hkf hk5 hL)
  · refine ev_iload_n (pc := 66) (i := 1) dX10_sum_66 rfl rfl ?_
    refine ev_i2l (pc := 67) dX10_sum_67 ?_
    refine ev_lload_n (pc := 68) (i := 3) dX10_sum_68 rfl rfl ?_
    refine ev_ladd (pc := 69) dX10_sum_69 ?_
    refine ev_goto (pc := 70) (tgt := 77) dX10_sum_70 rfl ?_
    exact ev_le (lvle_s (lvle_n (lvle_n (lvle_n (lvle_n lvle_z))))) (KMd_sum_b77 hkf hk5 hL)
set_option maxHeartbeats 1000000 in
set_option maxRecDepth 100000 in
theorem KMd_sum_b31 {ω : Wd} {z : Nat → Prop} {d0 : Nat} {kf : Hp × Int → Option (Int × Hp)} {k5 : Hp × Int × Int → Option (Int × Hp)} {h h' : Hp} {x0 x1 r : Int} (hkf : ∀ s o, kf s = some o → CtB ω N_Md_sum d0 [aV ω s.2] z s.1 (some (iV o.1)) o.2) (hk5 : ∀ s o, k5 s = some o → EvB ω N_Md_sum (d0 + 8) (QB (some (iV o.1)) z o.2) z s.1 5 [some (aV ω s.2.1), some (iV s.2.2), none, none, none] []) (hL : Md_sum_b31 kf k5 h x0 x1 = some (r, h')) : EvB ω N_Md_sum (d0 + 8) (QB (some (iV r)) z h') z h 31 [some (aV ω x0), some (iV x1), none, none, none] [] := by
  unfold Md_sum_b31 at hL
  refine ev_aload_n (pc := 31) (i := 0) dX10_sum_31 rfl rfl ?_
  obtain ⟨hs9, hL⟩ := cC_un hL
  obtain ⟨r10, h11, hc12, hL⟩ := cl_un hL
  refine evB_callV_I (pc := 32) (M_Md_look hc12) dX10_sum_32 mt_Md_look st_Md_look ml_Md_138 hs9 (by decide) ⟨_, rfl, rfl⟩ (by omega) rfl rfl (Nat.le_trans sm_z (by decide)) ?_
  refine ev_bipush (pc := 35) dX10_sum_35 (by decide) ?_
  refine ev_icmp_ne (pc := 37) (tgt := 44) dX10_sum_37 rfl hL rfl (fun hL => ?_) (fun hL => ?_)
  · refine ev_iconst (pc := 40) dX10_sum_40 ?_
    refine ev_goto (pc := 41) (tgt := 45) dX10_sum_41 rfl ?_
    exact ev_le (lvle_s (lvle_s (lvle_n (lvle_n (lvle_n lvle_z))))) (KMd_sum_b45 hkf hk5 hL)
  · refine ev_iconst (pc := 44) dX10_sum_44 ?_
    exact ev_le (lvle_s (lvle_s (lvle_n (lvle_n (lvle_n lvle_z))))) (KMd_sum_b45 hkf hk5 hL)
set_option maxHeartbeats 1000000 in
set_option maxRecDepth 100000 in
theorem KMd_sum_b5_body {ω : Wd} {z : Nat → Prop} {d0 : Nat} {kf : Hp × Int → Option (Int × Hp)}  {k5 : Hp × Int × Int → Option (Int × Hp)} {h h' : Hp} {x0 x1 r : Int} (hkf : ∀ s o, kf s = some o → CtB ω N_Md_sum d0 [aV ω s.2] z s.1 (some (iV o.1)) o.2) (hk5 : ∀ s o, k5 s = some o → EvB ω N_Md_sum (d0 + 8) (QB (some (iV o.1)) z o.2) z s.1 5 [some (aV ω s.2.1), some (iV s.2.2), none, none, none] []) (hL : Md_sum_b5_body kf k5 h x0 x1 = some (r, h')) : EvB ω N_Md_sum (d0 + 8) (QB (some (iV r)) z h') z h 5 [some (aV ω x0), some (iV x1), none, none, none] [] := by
  unfold Md_sum_b5_body at hL
  refine ev_aload_n (pc := 5) (i := 0) dX10_sum_5 rfl rfl ?_
  obtain ⟨hs5, hL⟩ := cC_un hL
  refine ev_get (pc := 6) (c9 := 10) (k9 := 11) dX10_sum_6 fl_Md_128 (by decide) hs5 gv10_11 ?_
  refine ev_iconst (pc := 9) dX10_sum_9 ?_
  refine ev_icmp_ne (pc := 10) (tgt := 84) dX10_sum_10 rfl hL rfl (fun hL => ?_) (fun hL => ?_)
  · refine ev_aload_n (pc := 13) (i := 0) dX10_sum_13 rfl rfl ?_
    obtain ⟨r6, h7, hc8, hL⟩ := cl_un hL
    refine evB_callV_I (pc := 14) (M_Md_look hc8) dX10_sum_14 mt_Md_look st_Md_look ml_Md_138 hs5 (by decide) ⟨_, rfl, rfl⟩ (by omega) rfl rfl (Nat.le_trans sm_z (by decide)) ?_
    refine ev_bipush (pc := 17) dX10_sum_17 (by decide) ?_
    refine ev_icmp_eq (pc := 19) (tgt := 31) dX10_sum_19 rfl hL rfl (fun hL => ?_) (fun hL => ?_)
    · exact ev_le (lvle_s (lvle_s (lvle_n (lvle_n (lvle_n lvle_z))))) (KMd_sum_b31 hkf hk5 hL)
    · refine ev_aload_n (pc := 22) (i := 0) dX10_sum_22 rfl rfl ?_
      obtain ⟨r22, h23, hc24, hL⟩ := cl_un hL
      refine evB_callV_I (pc := 23) (M_Md_look hc24) dX10_sum_23 mt_Md_look st_Md_look ml_Md_138 hs5 (by decide) ⟨_, rfl, rfl⟩ (by omega) rfl rfl (Nat.le_trans sm_z (by decide)) ?_
      refine ev_bipush (pc := 26) dX10_sum_26 (by decide) ?_
      refine ev_icmp_ne (pc := 28) (tgt := 84) dX10_sum_28 rfl hL rfl (fun hL => ?_) (fun hL => ?_)
      · exact ev_le (lvle_s (lvle_s (lvle_n (lvle_n (lvle_n lvle_z))))) (KMd_sum_b31 hkf hk5 hL)
      · refine ev_iload_n (pc := 84) (i := 1) dX10_sum_84 rfl rfl ?_
        exact evB_iret (pc := 85) dX10_sum_85 rfl hL
  · refine ev_iload_n (pc := 84) (i := 1) dX10_sum_84 rfl rfl ?_
    exact evB_iret (pc := 85) dX10_sum_85 rfl hL
set_option maxHeartbeats 1000000 in
set_option maxRecDepth 100000 in
theorem KMd_sum_b5 {ω : Wd} {z : Nat → Prop} {d0 : Nat} {kf : Hp × Int → Option (Int × Hp)}  {h h' : Hp} {x0 x1 r : Int} (hkf : ∀ s o, kf s = some o → CtB ω N_Md_sum d0 [aV ω s.2] z s.1 (some (iV o.1)) o.2) (hL : Md_sum_b5 kf h x0 x1 = some (r, h')) : EvB ω N_Md_sum (d0 + 8) (QB (some (iV r)) z h') z h 5 [some (aV ω x0), some (iV x1), none, none, none] [] := by
  unfold Md_sum_b5 at hL
  refine itr_link (P := fun (s : Hp × Int × Int) (o : Int × Hp) => EvB ω N_Md_sum (d0 + 8) (QB (some (iV o.1)) z o.2) z s.1 5 [some (aV ω s.2.1), some (iV s.2.2), none, none, none] []) ?_ _ _ _ hL
  intro k hk s o h9
  have h10 := KMd_sum_b5_body (ω := ω) (z := z) (d0 := d0) (kf := kf) (k5 := k) (h := s.1) (x0 := s.2.1) (x1 := s.2.2) (r := o.1) (h' := o.2) hkf
  exact h10 hk h9
set_option maxHeartbeats 1000000 in
set_option maxRecDepth 100000 in
theorem MB_Md_sum {ω : Wd} {z : Nat → Prop} {d0 : Nat} {kf : Hp × Int → Option (Int × Hp)} {h h' : Hp} {a0 r : Int} (hkf : ∀ s o, kf s = some o → CtB ω N_Md_sum d0 [aV ω s.2] z s.1 (some (iV o.1)) o.2) (hL : Md_sum_body kf h a0 = some (r, h')) : CtB ω N_Md_sum (d0 + 8) [aV ω a0] z h (some (iV r)) h' := by
  unfold Md_sum_body at hL
  refine Ct_of (lv := [some (aV ω a0), none, none, none, none]) (by decide) (Nat.le_trans (sl_1 (cat_aV _ _) sl_z) (Nat.le_of_ble_eq_true rfl)) (la_1 (cat_aV _ _) (la_n (la_n (la_n (la_n la_z))))) ?_
  refine ev_aload_n (pc := 0) (i := 0) dX10_sum_0 rfl rfl ?_
  obtain ⟨hs1, hL⟩ := cC_un hL
  obtain ⟨r2, h3, hc4, hL⟩ := cl_un hL
  refine evB_callV_I (pc := 1) (MB_Md_term hkf hc4) dX10_sum_1 mt_Md_term st_Md_term ml_Md_178 hs1 (by decide) ⟨_, rfl, rfl⟩ (by omega) rfl rfl (Nat.le_trans sm_z (by decide)) ?_
  refine ev_istore_n (pc := 4) (i := 1) dX10_sum_4 rfl (lnl_v (cat_aV _ _) rfl) (Nat.le_of_ble_eq_true rfl) ?_
  exact ev_le (lvle_s (lvle_s (lvle_n (lvle_n (lvle_n lvle_z))))) (KMd_sum_b5 hkf hL)
set_option maxHeartbeats 1000000 in
set_option maxRecDepth 100000 in
theorem MR_Md_sum {ω : Wd} {z : Nat → Prop} : ∀ (n : Nat) (s : Hp × Int) (o : Int × Hp), itr (fun k s => Md_sum_body k s.1 s.2) n s = some o → CtB ω N_Md_sum (n * 8) [aV ω s.2] z s.1 (some (iV o.1)) o.2 := by
  refine itr_rec (P := fun (n : Nat) (s : Hp × Int) (o : Int × Hp) => CtB ω N_Md_sum (n * 8) [aV ω s.2] z s.1 (some (iV o.1)) o.2) (fun n k hk s o h9 => ?_)
  have := MB_Md_sum (ω := ω) (z := z) (h := s.1) (a0 := s.2) (r := o.1) (h' := o.2) hk h9
  rwa [show n * 8 + 8 = (n + 1) * 8 from by omega] at this
set_option maxHeartbeats 1000000 in
set_option maxRecDepth 100000 in
theorem M_Md_sum {ω : Wd} {z : Nat → Prop} {h h' : Hp} {a0 r : Int} (hL : Md_sum h a0 = some (r, h')) : CtB ω N_Md_sum 96 [aV ω a0] z h (some (iV r)) h' := by
  unfold Md_sum Md_sum_f at hL
  exact MR_Md_sum RF (h, a0) (r, h') hL
set_option maxRecDepth 100000 in
theorem M_Md_atom {ω : Wd} {z : Nat → Prop} {h h' : Hp} {a0 r : Int} (hL : Md_atom Md_sum_f h a0 = some (r, h')) : CtB ω N_Md_atom 102 [aV ω a0] z h (some (iV r)) h' := MB_Md_atom (d0 := 96) (fun s o g => MR_Md_sum RF s o (by unfold Md_sum_f at g; exact g)) hL
set_option maxRecDepth 100000 in
theorem M_Md_term {ω : Wd} {z : Nat → Prop} {h h' : Hp} {a0 r : Int} (hL : Md_term Md_sum_f h a0 = some (r, h')) : CtB ω N_Md_term 103 [aV ω a0] z h (some (iV r)) h' := MB_Md_term (d0 := 96) (fun s o g => MR_Md_sum RF s o (by unfold Md_sum_f at g; exact g)) hL
set_option maxHeartbeats 1000000 in
set_option maxRecDepth 100000 in
theorem KMd_compares_b12 {ω : Wd} {z : Nat → Prop}  {h h' : Hp} {x0 y0 r : Int}  (hL : Md_compares_b12 h x0 y0 = some (r, h')) : EvB ω N_Md_compares 97 (QB (some (iV r)) z h') z h 12 [some (aV ω x0), none, none, none, none, none] [iV y0] := by
  unfold Md_compares_b12 at hL
  refine ev_istore_n (pc := 12) (i := 3) dX10_compares_12 rfl (lnl_n rfl) (Nat.le_of_ble_eq_true rfl) ?_
  refine ev_aload_n (pc := 13) (i := 0) dX10_compares_13 rfl rfl ?_
  obtain ⟨hs5, hL⟩ := cC_un hL
  refine ev_get (pc := 14) (c9 := 10) (k9 := 11) dX10_compares_14 fl_Md_128 (by decide) hs5 gv10_11 ?_
  refine ev_iconst (pc := 17) dX10_compares_17 ?_
  refine ev_icmp_eq (pc := 18) (tgt := 23) dX10_compares_18 rfl hL rfl (fun hL => ?_) (fun hL => ?_)
  · refine ev_aload_n (pc := 23) (i := 0) dX10_compares_23 rfl rfl ?_
    obtain ⟨r6, h7, hc8, hL⟩ := cl_un hL
    refine evB_callV_I (pc := 24) (M_Md_look hc8) dX10_compares_24 mt_Md_look st_Md_look ml_Md_138 hs5 (by decide) ⟨_, rfl, rfl⟩ (Nat.le_of_ble_eq_true rfl) rfl rfl (Nat.le_trans sm_z (by decide)) ?_
    refine ev_istore (pc := 27) dX10_compares_27 (lnl_v rfl rfl) (Nat.le_of_ble_eq_true rfl) ?_
    refine ev_iload (pc := 29) dX10_compares_29 rfl ?_
    obtain ⟨r9, h10, hc11, hL⟩ := cl_un hL
    refine evB_callS_I (pc := 31) (M_Md_isSign hc11) dX10_compares_31 mt_Md_isSign st_Md_isSign ml_Md_181 (Nat.le_of_ble_eq_true rfl) rfl rfl (Nat.le_trans sm_z (by decide)) ?_
    refine ev_if_ne (pc := 34) (tgt := 42) dX10_compares_34 rfl hL rfl (fun hL => ?_) (fun hL => ?_)
    · refine ev_aload_n (pc := 37) (i := 0) dX10_compares_37 rfl rfl ?_
      obtain ⟨r12, h13, hc14, hL⟩ := cl_un hL
      refine evB_callV_I (pc := 38) (M_Md_fails hc14) dX10_compares_38 mt_Md_fails st_Md_fails ml_Md_134 hs5 (by decide) ⟨_, rfl, rfl⟩ (Nat.le_of_ble_eq_true rfl) rfl rfl (Nat.le_trans sm_z (by decide)) ?_
      exact evB_zret (pc := 41) dX10_compares_41 rfl rfl hL
    · refine ev_aload_n (pc := 42) (i := 0) dX10_compares_42 rfl rfl ?_
      refine ev_dup (pc := 43) dX10_compares_43 (cat_aV _ _) ?_
      refine ev_get (pc := 44) (c9 := 10) (k9 := 10) dX10_compares_44 fl_Md_119 (by decide) hs5 gv10_10 ?_
      refine ev_iconst (pc := 47) dX10_compares_47 ?_
      refine ev_iadd (pc := 48) dX10_compares_48 ?_
      refine evB_putI (pc := 49) (c9 := 10) (k9 := 10) (kI := 10) dX10_compares_49 fl_Md_119 hs5 (by decide) (fun q hq => by cases hq; rfl) rfl rfl rfl ?_
      refine ev_puG hL (fun h15 hL => ?_)
      refine ev_aload_n (pc := 52) (i := 0) dX10_compares_52 rfl rfl ?_
      obtain ⟨r16, h17, hc18, hL⟩ := cl_un hL
      refine evB_callV_I (pc := 53) (M_Md_sum hc18) dX10_compares_53 mt_Md_sum st_Md_sum ml_Md_161 hs5 (by decide) ⟨_, rfl, rfl⟩ (Nat.le_of_ble_eq_true rfl) rfl rfl (Nat.le_trans sm_z (by decide)) ?_
      refine ev_istore (pc := 56) dX10_compares_56 (lnl_v rfl rfl) (Nat.le_of_ble_eq_true rfl) ?_
      refine ev_iload (pc := 58) dX10_compares_58 rfl ?_
      refine ev_bipush (pc := 60) dX10_compares_60 (by decide) ?_
      refine ev_icmp_ne (pc := 62) (tgt := 79) dX10_compares_62 rfl hL rfl (fun hL => ?_) (fun hL => ?_)
      · refine ev_iload_n (pc := 65) (i := 3) dX10_compares_65 rfl rfl ?_
        refine ev_iload (pc := 66) dX10_compares_66 rfl ?_
        refine ev_icmp_ne (pc := 68) (tgt := 75) dX10_compares_68 rfl hL rfl (fun hL => ?_) (fun hL => ?_)
        · refine ev_iconst (pc := 71) dX10_compares_71 ?_
          refine ev_goto (pc := 72) (tgt := 111) dX10_compares_72 rfl ?_
          exact evB_zret (pc := 111) dX10_compares_111 rfl rfl hL
        · refine ev_iconst (pc := 75) dX10_compares_75 ?_
          refine ev_goto (pc := 76) (tgt := 111) dX10_compares_76 rfl ?_
          exact evB_zret (pc := 111) dX10_compares_111 rfl rfl hL
      · refine ev_iload (pc := 79) dX10_compares_79 rfl ?_
        refine ev_bipush (pc := 81) dX10_compares_81 (by decide) ?_
        refine ev_icmp_ne (pc := 83) (tgt := 100) dX10_compares_83 rfl hL rfl (fun hL => ?_) (fun hL => ?_)
        · refine ev_iload_n (pc := 86) (i := 3) dX10_compares_86 rfl rfl ?_
          refine ev_iload (pc := 87) dX10_compares_87 rfl ?_
          refine ev_icmp_ge (pc := 89) (tgt := 96) dX10_compares_89 rfl hL rfl (fun hL => ?_) (fun hL => ?_)
          · refine ev_iconst (pc := 92) dX10_compares_92 ?_
            refine ev_goto (pc := 93) (tgt := 111) dX10_compares_93 rfl ?_
            exact evB_zret (pc := 111) dX10_compares_111 rfl rfl hL
          · refine ev_iconst (pc := 96) dX10_compares_96 ?_
            refine ev_goto (pc := 97) (tgt := 111) dX10_compares_97 rfl ?_
            exact evB_zret (pc := 111) dX10_compares_111 rfl rfl hL
        · refine ev_iload_n (pc := 100) (i := 3) dX10_compares_100 rfl rfl ?_
          refine ev_iload (pc := 101) dX10_compares_101 rfl ?_
          refine ev_icmp_le (pc := 103) (tgt := 110) dX10_compares_103 rfl hL rfl (fun hL => ?_) (fun hL => ?_)
          · refine ev_iconst (pc := 106) dX10_compares_106 ?_
            refine ev_goto (pc := 107) (tgt := 111) dX10_compares_107 rfl ?_
            exact evB_zret (pc := 111) dX10_compares_111 rfl rfl hL
          · refine ev_iconst (pc := 110) dX10_compares_110 ?_
            exact evB_zret (pc := 111) dX10_compares_111 rfl rfl hL
  · refine ev_iconst (pc := 21) dX10_compares_21 ?_
    exact evB_zret (pc := 22) dX10_compares_22 rfl rfl hL
set_option maxHeartbeats 1000000 in
set_option maxRecDepth 100000 in
theorem M_Md_compares {ω : Wd} {z : Nat → Prop} {h h' : Hp} {a0 a1 a2 r : Int}  (hL : Md_compares h a0 a1 a2 = some (r, h')) : CtB ω N_Md_compares 97 [aV ω a0, iV a1, iV a2] z h (some (iV r)) h' := by
  unfold Md_compares at hL
  refine Ct_of (lv := [some (aV ω a0), some (iV a1), some (iV a2), none, none, none]) (by decide) (Nat.le_trans (sl_1 (cat_aV _ _) (sl_1 (cat_iV _) (sl_1 (cat_iV _) sl_z))) (Nat.le_of_ble_eq_true rfl)) (la_1 (cat_aV _ _) (la_1 (cat_iV _) (la_1 (cat_iV _) (la_n (la_n (la_n la_z)))))) ?_
  refine ev_iload_n (pc := 0) (i := 1) dX10_compares_0 rfl rfl ?_
  refine ev_if_eq (pc := 1) (tgt := 8) dX10_compares_1 rfl hL rfl (fun hL => ?_) (fun hL => ?_)
  · refine ev_aload_n (pc := 8) (i := 0) dX10_compares_8 rfl rfl ?_
    obtain ⟨hs1, hL⟩ := cC_un hL
    obtain ⟨r2, h3, hc4, hL⟩ := cl_un hL
    refine evB_callV_I (pc := 9) (M_Md_sum hc4) dX10_compares_9 mt_Md_sum st_Md_sum ml_Md_161 hs1 (by decide) ⟨_, rfl, rfl⟩ (Nat.le_of_ble_eq_true rfl) rfl rfl (Nat.le_trans sm_z (by decide)) ?_
    exact ev_le (lvle_s (lvle_n (lvle_n (lvle_n (lvle_n (lvle_n lvle_z)))))) (KMd_compares_b12  hL)
  · refine ev_iload_n (pc := 4) (i := 2) dX10_compares_4 rfl rfl ?_
    refine ev_goto (pc := 5) (tgt := 12) dX10_compares_5 rfl ?_
    exact ev_le (lvle_s (lvle_n (lvle_n (lvle_n (lvle_n (lvle_n lvle_z)))))) (KMd_compares_b12  hL)
set_option maxHeartbeats 1000000 in
set_option maxRecDepth 100000 in
theorem KMd_part_b18_body {ω : Wd} {z : Nat → Prop} {d0 : Nat} {kf : Hp × Int → Option (Int × Hp)}  {k18 : Hp × Int × Int → Option (Int × Hp)} {h h' : Hp} {x0 x3 r : Int} (hkf : ∀ s o, kf s = some o → CtB ω N_Md_unit d0 [aV ω s.2] z s.1 (some (iV o.1)) o.2) (hk18 : ∀ s o, k18 s = some o → EvB ω N_Md_part (d0 + 98) (QB (some (iV o.1)) z o.2) z s.1 18 [some (aV ω s.2.1), none, none, some (iV s.2.2), none] []) (hL : Md_part_b18_body kf k18 h x0 x3 = some (r, h')) : EvB ω N_Md_part (d0 + 98) (QB (some (iV r)) z h') z h 18 [some (aV ω x0), none, none, some (iV x3), none] [] := by
  unfold Md_part_b18_body at hL
  refine ev_aload_n (pc := 18) (i := 0) dX10_part_18 rfl rfl ?_
  obtain ⟨hs5, hL⟩ := cC_un hL
  refine ev_get (pc := 19) (c9 := 10) (k9 := 11) dX10_part_19 fl_Md_128 (by decide) hs5 gv10_11 ?_
  refine ev_iconst (pc := 22) dX10_part_22 ?_
  refine ev_icmp_ne (pc := 23) (tgt := 69) dX10_part_23 rfl hL rfl (fun hL => ?_) (fun hL => ?_)
  · refine ev_aload_n (pc := 26) (i := 0) dX10_part_26 rfl rfl ?_
    obtain ⟨r6, h7, hc8, hL⟩ := cl_un hL
    refine evB_callV_I (pc := 27) (M_Md_look hc8) dX10_part_27 mt_Md_look st_Md_look ml_Md_138 hs5 (by decide) ⟨_, rfl, rfl⟩ (by omega) rfl rfl (Nat.le_trans sm_z (by decide)) ?_
    refine ev_bipush (pc := 30) dX10_part_30 (by decide) ?_
    refine ev_icmp_ne (pc := 32) (tgt := 69) dX10_part_32 rfl hL rfl (fun hL => ?_) (fun hL => ?_)
    · refine ev_aload_n (pc := 35) (i := 0) dX10_part_35 rfl rfl ?_
      refine ev_dup (pc := 36) dX10_part_36 (cat_aV _ _) ?_
      refine ev_get (pc := 37) (c9 := 10) (k9 := 10) dX10_part_37 fl_Md_119 (by decide) hs5 gv10_10 ?_
      refine ev_iconst (pc := 40) dX10_part_40 ?_
      refine ev_iadd (pc := 41) dX10_part_41 ?_
      refine evB_putI (pc := 42) (c9 := 10) (k9 := 10) (kI := 10) dX10_part_42 fl_Md_119 hs5 (by decide) (fun q hq => by cases hq; rfl) rfl rfl rfl ?_
      refine ev_puG hL (fun h9 hL => ?_)
      refine ev_aload_n (pc := 45) (i := 0) dX10_part_45 rfl rfl ?_
      obtain ⟨r10, h11, hc12, hL⟩ := cl_un hL
      refine evB_callV_I (pc := 46) (hkf _ _ hc12) dX10_part_46 mt_Md_unit st_Md_unit ml_Md_184 hs5 (by decide) ⟨_, rfl, rfl⟩ (by omega) rfl rfl (Nat.le_trans sm_z (by decide)) ?_
      refine ev_istore (pc := 49) dX10_part_49 (lnl_v rfl rfl) (Nat.le_of_ble_eq_true rfl) ?_
      refine ev_iload_n (pc := 51) (i := 3) dX10_part_51 rfl rfl ?_
      refine ev_if_eq (pc := 52) (tgt := 64) dX10_part_52 rfl hL rfl (fun hL => ?_) (fun hL => ?_)
      · refine ev_iconst (pc := 64) dX10_part_64 ?_
        refine ev_istore_n (pc := 65) (i := 3) dX10_part_65 rfl (lnl_n rfl) (Nat.le_of_ble_eq_true rfl) ?_
        refine ev_goto (pc := 66) (tgt := 18) dX10_part_66 rfl ?_
        exact ev_le (lvle_s (lvle_n (lvle_n (lvle_s (lvle_n lvle_z))))) (hk18 _ _ hL)
      · refine ev_iload (pc := 55) dX10_part_55 rfl ?_
        refine ev_if_eq (pc := 57) (tgt := 64) dX10_part_57 rfl hL rfl (fun hL => ?_) (fun hL => ?_)
        · refine ev_iconst (pc := 64) dX10_part_64 ?_
          refine ev_istore_n (pc := 65) (i := 3) dX10_part_65 rfl (lnl_n rfl) (Nat.le_of_ble_eq_true rfl) ?_
          refine ev_goto (pc := 66) (tgt := 18) dX10_part_66 rfl ?_
          exact ev_le (lvle_s (lvle_n (lvle_n (lvle_s (lvle_n lvle_z))))) (hk18 _ _ hL)
        · refine ev_iconst (pc := 60) dX10_part_60 ?_
          refine ev_goto (pc := 61) (tgt := 65) dX10_part_61 rfl ?_
          refine ev_istore_n (pc := 65) (i := 3) dX10_part_65 rfl (lnl_n rfl) (Nat.le_of_ble_eq_true rfl) ?_
          refine ev_goto (pc := 66) (tgt := 18) dX10_part_66 rfl ?_
          exact ev_le (lvle_s (lvle_n (lvle_n (lvle_s (lvle_n lvle_z))))) (hk18 _ _ hL)
    · refine ev_iload_n (pc := 69) (i := 3) dX10_part_69 rfl rfl ?_
      exact evB_zret (pc := 70) dX10_part_70 rfl rfl hL
  · refine ev_iload_n (pc := 69) (i := 3) dX10_part_69 rfl rfl ?_
    exact evB_zret (pc := 70) dX10_part_70 rfl rfl hL
set_option maxHeartbeats 1000000 in
set_option maxRecDepth 100000 in
theorem KMd_part_b18 {ω : Wd} {z : Nat → Prop} {d0 : Nat} {kf : Hp × Int → Option (Int × Hp)}  {h h' : Hp} {x0 x3 r : Int} (hkf : ∀ s o, kf s = some o → CtB ω N_Md_unit d0 [aV ω s.2] z s.1 (some (iV o.1)) o.2) (hL : Md_part_b18 kf h x0 x3 = some (r, h')) : EvB ω N_Md_part (d0 + 98) (QB (some (iV r)) z h') z h 18 [some (aV ω x0), none, none, some (iV x3), none] [] := by
  unfold Md_part_b18 at hL
  refine itr_link (P := fun (s : Hp × Int × Int) (o : Int × Hp) => EvB ω N_Md_part (d0 + 98) (QB (some (iV o.1)) z o.2) z s.1 18 [some (aV ω s.2.1), none, none, some (iV s.2.2), none] []) ?_ _ _ _ hL
  intro k hk s o h9
  have h10 := KMd_part_b18_body (ω := ω) (z := z) (d0 := d0) (kf := kf) (k18 := k) (h := s.1) (x0 := s.2.1) (x3 := s.2.2) (r := o.1) (h' := o.2) hkf
  exact h10 hk h9
set_option maxHeartbeats 1000000 in
set_option maxRecDepth 100000 in
theorem MB_Md_part {ω : Wd} {z : Nat → Prop} {d0 : Nat} {kf : Hp × Int → Option (Int × Hp)} {h h' : Hp} {a0 a1 a2 r : Int} (hkf : ∀ s o, kf s = some o → CtB ω N_Md_unit d0 [aV ω s.2] z s.1 (some (iV o.1)) o.2) (hL : Md_part kf h a0 a1 a2 = some (r, h')) : CtB ω N_Md_part (d0 + 98) [aV ω a0, iV a1, iV a2] z h (some (iV r)) h' := by
  unfold Md_part at hL
  refine Ct_of (lv := [some (aV ω a0), some (iV a1), some (iV a2), none, none]) (by decide) (Nat.le_trans (sl_1 (cat_aV _ _) (sl_1 (cat_iV _) (sl_1 (cat_iV _) sl_z))) (Nat.le_of_ble_eq_true rfl)) (la_1 (cat_aV _ _) (la_1 (cat_iV _) (la_1 (cat_iV _) (la_n (la_n la_z))))) ?_
  refine ev_iload_n (pc := 0) (i := 1) dX10_part_0 rfl rfl ?_
  refine ev_if_eq (pc := 1) (tgt := 13) dX10_part_1 rfl hL rfl (fun hL => ?_) (fun hL => ?_)
  · refine ev_aload_n (pc := 13) (i := 0) dX10_part_13 rfl rfl ?_
    obtain ⟨hs1, hL⟩ := cC_un hL
    obtain ⟨r2, h3, hc4, hL⟩ := cl_un hL
    refine evB_callV_I (pc := 14) (hkf _ _ hc4) dX10_part_14 mt_Md_unit st_Md_unit ml_Md_184 hs1 (by decide) ⟨_, rfl, rfl⟩ (by omega) rfl rfl (Nat.le_trans sm_z (by decide)) ?_
    refine ev_istore_n (pc := 17) (i := 3) dX10_part_17 rfl (lnl_v rfl rfl) (Nat.le_of_ble_eq_true rfl) ?_
    exact ev_le (lvle_s (lvle_n (lvle_n (lvle_s (lvle_n lvle_z))))) (KMd_part_b18 hkf hL)
  · refine ev_aload_n (pc := 4) (i := 0) dX10_part_4 rfl rfl ?_
    refine ev_iconst (pc := 5) dX10_part_5 ?_
    refine ev_iload_n (pc := 6) (i := 2) dX10_part_6 rfl rfl ?_
    obtain ⟨hs13, hL⟩ := cC_un hL
    obtain ⟨r14, h15, hc16, hL⟩ := cl_un hL
    refine evB_callV_I (pc := 7) (M_Md_compares hc16) dX10_part_7 mt_Md_compares st_Md_compares ml_Md_191 hs13 (by decide) ⟨_, rfl, rfl⟩ (by omega) rfl rfl (Nat.le_trans sm_z (by decide)) ?_
    refine ev_goto (pc := 10) (tgt := 17) dX10_part_10 rfl ?_
    refine ev_istore_n (pc := 17) (i := 3) dX10_part_17 rfl (lnl_v rfl rfl) (Nat.le_of_ble_eq_true rfl) ?_
    exact ev_le (lvle_s (lvle_n (lvle_n (lvle_s (lvle_n lvle_z))))) (KMd_part_b18 hkf hL)
set_option maxHeartbeats 1000000 in
set_option maxRecDepth 100000 in
theorem KMd_condition_b7_body {ω : Wd} {z : Nat → Prop} {d0 : Nat} {kf : Hp × Int → Option (Int × Hp)}  {k7 : Hp × Int × Int → Option (Int × Hp)} {h h' : Hp} {x0 x3 r : Int} (hkf : ∀ s o, kf s = some o → CtB ω N_Md_unit d0 [aV ω s.2] z s.1 (some (iV o.1)) o.2) (hk7 : ∀ s o, k7 s = some o → EvB ω N_Md_condition (d0 + 99) (QB (some (iV o.1)) z o.2) z s.1 7 [some (aV ω s.2.1), none, none, some (iV s.2.2), none] []) (hL : Md_condition_b7_body kf k7 h x0 x3 = some (r, h')) : EvB ω N_Md_condition (d0 + 99) (QB (some (iV r)) z h') z h 7 [some (aV ω x0), none, none, some (iV x3), none] [] := by
  unfold Md_condition_b7_body at hL
  refine ev_aload_n (pc := 7) (i := 0) dX10_condition_7 rfl rfl ?_
  obtain ⟨hs5, hL⟩ := cC_un hL
  refine ev_get (pc := 8) (c9 := 10) (k9 := 11) dX10_condition_8 fl_Md_128 (by decide) hs5 gv10_11 ?_
  refine ev_iconst (pc := 11) dX10_condition_11 ?_
  refine ev_icmp_ne (pc := 12) (tgt := 60) dX10_condition_12 rfl hL rfl (fun hL => ?_) (fun hL => ?_)
  · refine ev_aload_n (pc := 15) (i := 0) dX10_condition_15 rfl rfl ?_
    obtain ⟨r6, h7, hc8, hL⟩ := cl_un hL
    refine evB_callV_I (pc := 16) (M_Md_look hc8) dX10_condition_16 mt_Md_look st_Md_look ml_Md_138 hs5 (by decide) ⟨_, rfl, rfl⟩ (by omega) rfl rfl (Nat.le_trans sm_z (by decide)) ?_
    refine ev_bipush (pc := 19) dX10_condition_19 (by decide) ?_
    refine ev_icmp_ne (pc := 21) (tgt := 60) dX10_condition_21 rfl hL rfl (fun hL => ?_) (fun hL => ?_)
    · refine ev_aload_n (pc := 24) (i := 0) dX10_condition_24 rfl rfl ?_
      refine ev_dup (pc := 25) dX10_condition_25 (cat_aV _ _) ?_
      refine ev_get (pc := 26) (c9 := 10) (k9 := 10) dX10_condition_26 fl_Md_119 (by decide) hs5 gv10_10 ?_
      refine ev_iconst (pc := 29) dX10_condition_29 ?_
      refine ev_iadd (pc := 30) dX10_condition_30 ?_
      refine evB_putI (pc := 31) (c9 := 10) (k9 := 10) (kI := 10) dX10_condition_31 fl_Md_119 hs5 (by decide) (fun q hq => by cases hq; rfl) rfl rfl rfl ?_
      refine ev_puG hL (fun h9 hL => ?_)
      refine ev_aload_n (pc := 34) (i := 0) dX10_condition_34 rfl rfl ?_
      refine ev_iconst (pc := 35) dX10_condition_35 ?_
      refine ev_iconst (pc := 36) dX10_condition_36 ?_
      obtain ⟨r10, h11, hc12, hL⟩ := cl_un hL
      refine evB_callV_I (pc := 37) (MB_Md_part hkf hc12) dX10_condition_37 mt_Md_part st_Md_part ml_Md_194 hs5 (by decide) ⟨_, rfl, rfl⟩ (by omega) rfl rfl (Nat.le_trans sm_z (by decide)) ?_
      refine ev_istore (pc := 40) dX10_condition_40 (lnl_v rfl rfl) (Nat.le_of_ble_eq_true rfl) ?_
      refine ev_iload_n (pc := 42) (i := 3) dX10_condition_42 rfl rfl ?_
      refine ev_if_ne (pc := 43) (tgt := 51) dX10_condition_43 rfl hL rfl (fun hL => ?_) (fun hL => ?_)
      · refine ev_iload (pc := 46) dX10_condition_46 rfl ?_
        refine ev_if_eq (pc := 48) (tgt := 55) dX10_condition_48 rfl hL rfl (fun hL => ?_) (fun hL => ?_)
        · refine ev_iconst (pc := 55) dX10_condition_55 ?_
          refine ev_istore_n (pc := 56) (i := 3) dX10_condition_56 rfl (lnl_n rfl) (Nat.le_of_ble_eq_true rfl) ?_
          refine ev_goto (pc := 57) (tgt := 7) dX10_condition_57 rfl ?_
          exact ev_le (lvle_s (lvle_n (lvle_n (lvle_s (lvle_n lvle_z))))) (hk7 _ _ hL)
        · refine ev_iconst (pc := 51) dX10_condition_51 ?_
          refine ev_goto (pc := 52) (tgt := 56) dX10_condition_52 rfl ?_
          refine ev_istore_n (pc := 56) (i := 3) dX10_condition_56 rfl (lnl_n rfl) (Nat.le_of_ble_eq_true rfl) ?_
          refine ev_goto (pc := 57) (tgt := 7) dX10_condition_57 rfl ?_
          exact ev_le (lvle_s (lvle_n (lvle_n (lvle_s (lvle_n lvle_z))))) (hk7 _ _ hL)
      · refine ev_iconst (pc := 51) dX10_condition_51 ?_
        refine ev_goto (pc := 52) (tgt := 56) dX10_condition_52 rfl ?_
        refine ev_istore_n (pc := 56) (i := 3) dX10_condition_56 rfl (lnl_n rfl) (Nat.le_of_ble_eq_true rfl) ?_
        refine ev_goto (pc := 57) (tgt := 7) dX10_condition_57 rfl ?_
        exact ev_le (lvle_s (lvle_n (lvle_n (lvle_s (lvle_n lvle_z))))) (hk7 _ _ hL)
    · refine ev_iload_n (pc := 60) (i := 3) dX10_condition_60 rfl rfl ?_
      exact evB_zret (pc := 61) dX10_condition_61 rfl rfl hL
  · refine ev_iload_n (pc := 60) (i := 3) dX10_condition_60 rfl rfl ?_
    exact evB_zret (pc := 61) dX10_condition_61 rfl rfl hL
set_option maxHeartbeats 1000000 in
set_option maxRecDepth 100000 in
theorem KMd_condition_b7 {ω : Wd} {z : Nat → Prop} {d0 : Nat} {kf : Hp × Int → Option (Int × Hp)}  {h h' : Hp} {x0 x3 r : Int} (hkf : ∀ s o, kf s = some o → CtB ω N_Md_unit d0 [aV ω s.2] z s.1 (some (iV o.1)) o.2) (hL : Md_condition_b7 kf h x0 x3 = some (r, h')) : EvB ω N_Md_condition (d0 + 99) (QB (some (iV r)) z h') z h 7 [some (aV ω x0), none, none, some (iV x3), none] [] := by
  unfold Md_condition_b7 at hL
  refine itr_link (P := fun (s : Hp × Int × Int) (o : Int × Hp) => EvB ω N_Md_condition (d0 + 99) (QB (some (iV o.1)) z o.2) z s.1 7 [some (aV ω s.2.1), none, none, some (iV s.2.2), none] []) ?_ _ _ _ hL
  intro k hk s o h9
  have h10 := KMd_condition_b7_body (ω := ω) (z := z) (d0 := d0) (kf := kf) (k7 := k) (h := s.1) (x0 := s.2.1) (x3 := s.2.2) (r := o.1) (h' := o.2) hkf
  exact h10 hk h9
set_option maxHeartbeats 1000000 in
set_option maxRecDepth 100000 in
theorem MB_Md_condition {ω : Wd} {z : Nat → Prop} {d0 : Nat} {kf : Hp × Int → Option (Int × Hp)} {h h' : Hp} {a0 a1 a2 r : Int} (hkf : ∀ s o, kf s = some o → CtB ω N_Md_unit d0 [aV ω s.2] z s.1 (some (iV o.1)) o.2) (hL : Md_condition kf h a0 a1 a2 = some (r, h')) : CtB ω N_Md_condition (d0 + 99) [aV ω a0, iV a1, iV a2] z h (some (iV r)) h' := by
  unfold Md_condition at hL
  refine Ct_of (lv := [some (aV ω a0), some (iV a1), some (iV a2), none, none]) (by decide) (Nat.le_trans (sl_1 (cat_aV _ _) (sl_1 (cat_iV _) (sl_1 (cat_iV _) sl_z))) (Nat.le_of_ble_eq_true rfl)) (la_1 (cat_aV _ _) (la_1 (cat_iV _) (la_1 (cat_iV _) (la_n (la_n la_z))))) ?_
  refine ev_aload_n (pc := 0) (i := 0) dX10_condition_0 rfl rfl ?_
  refine ev_iload_n (pc := 1) (i := 1) dX10_condition_1 rfl rfl ?_
  refine ev_iload_n (pc := 2) (i := 2) dX10_condition_2 rfl rfl ?_
  obtain ⟨hs1, hL⟩ := cC_un hL
  obtain ⟨r2, h3, hc4, hL⟩ := cl_un hL
  refine evB_callV_I (pc := 3) (MB_Md_part hkf hc4) dX10_condition_3 mt_Md_part st_Md_part ml_Md_194 hs1 (by decide) ⟨_, rfl, rfl⟩ (by omega) rfl rfl (Nat.le_trans sm_z (by decide)) ?_
  refine ev_istore_n (pc := 6) (i := 3) dX10_condition_6 rfl (lnl_v rfl rfl) (Nat.le_of_ble_eq_true rfl) ?_
  exact ev_le (lvle_s (lvle_n (lvle_n (lvle_s (lvle_n lvle_z))))) (KMd_condition_b7 hkf hL)
set_option maxHeartbeats 1000000 in
set_option maxRecDepth 100000 in
theorem MB_Md_unit {ω : Wd} {z : Nat → Prop} {d0 : Nat} {kf : Hp × Int → Option (Int × Hp)} {h h' : Hp} {a0 r : Int} (hkf : ∀ s o, kf s = some o → CtB ω N_Md_unit d0 [aV ω s.2] z s.1 (some (iV o.1)) o.2) (hL : Md_unit_body kf h a0 = some (r, h')) : CtB ω N_Md_unit (d0 + 100) [aV ω a0] z h (some (iV r)) h' := by
  unfold Md_unit_body at hL
  refine Ct_of (lv := [some (aV ω a0), none, none]) (by decide) (Nat.le_trans (sl_1 (cat_aV _ _) sl_z) (Nat.le_of_ble_eq_true rfl)) (la_1 (cat_aV _ _) (la_n (la_n la_z))) ?_
  refine ev_aload_n (pc := 0) (i := 0) dX10_unit_0 rfl rfl ?_
  obtain ⟨hs1, hL⟩ := cC_un hL
  obtain ⟨r2, h3, hc4, hL⟩ := cl_un hL
  refine evB_callV_I (pc := 1) (M_Md_look hc4) dX10_unit_1 mt_Md_look st_Md_look ml_Md_138 hs1 (by decide) ⟨_, rfl, rfl⟩ (by omega) rfl rfl (Nat.le_trans sm_z (by decide)) ?_
  refine ev_istore_n (pc := 4) (i := 1) dX10_unit_4 rfl (lnl_v (cat_aV _ _) rfl) (Nat.le_of_ble_eq_true rfl) ?_
  refine ev_iload_n (pc := 5) (i := 1) dX10_unit_5 rfl rfl ?_
  refine ev_bipush (pc := 6) dX10_unit_6 (by decide) ?_
  refine ev_icmp_ne (pc := 8) (tgt := 45) dX10_unit_8 rfl hL rfl (fun hL => ?_) (fun hL => ?_)
  · refine ev_aload_n (pc := 11) (i := 0) dX10_unit_11 rfl rfl ?_
    obtain ⟨r5, h6, hc7, hL⟩ := cl_un hL
    refine evB_callV_I (pc := 12) (M_Md_goesIn hc7) dX10_unit_12 mt_Md_goesIn st_Md_goesIn ml_Md_158 hs1 (by decide) ⟨_, rfl, rfl⟩ (by omega) rfl rfl (Nat.le_trans sm_z (by decide)) ?_
    refine ev_if_ne (pc := 15) (tgt := 20) dX10_unit_15 rfl hL rfl (fun hL => ?_) (fun hL => ?_)
    · refine ev_iconst (pc := 18) dX10_unit_18 ?_
      exact evB_zret (pc := 19) dX10_unit_19 rfl rfl hL
    · refine ev_aload_n (pc := 20) (i := 0) dX10_unit_20 rfl rfl ?_
      obtain ⟨r8, h9, hc10, hL⟩ := cl_un hL
      refine evB_callV_I (pc := 21) (hkf _ _ hc10) dX10_unit_21 mt_Md_unit st_Md_unit ml_Md_184 hs1 (by decide) ⟨_, rfl, rfl⟩ (by omega) rfl rfl (Nat.le_trans sm_z (by decide)) ?_
      refine ev_istore_n (pc := 24) (i := 2) dX10_unit_24 rfl (lnl_v rfl rfl) (Nat.le_of_ble_eq_true rfl) ?_
      refine ev_aload_n (pc := 25) (i := 0) dX10_unit_25 rfl rfl ?_
      refine ev_dup (pc := 26) dX10_unit_26 (cat_aV _ _) ?_
      refine ev_get (pc := 27) (c9 := 10) (k9 := 12) dX10_unit_27 fl_Md_131 (by decide) hs1 gv10_12 ?_
      refine ev_iconst (pc := 30) dX10_unit_30 ?_
      refine ev_isub (pc := 31) dX10_unit_31 ?_
      refine evB_putI (pc := 32) (c9 := 10) (k9 := 12) (kI := 12) dX10_unit_32 fl_Md_131 hs1 (by decide) (fun q hq => by cases hq; rfl) rfl rfl rfl ?_
      refine ev_puG hL (fun h11 hL => ?_)
      refine ev_iload_n (pc := 35) (i := 2) dX10_unit_35 rfl rfl ?_
      refine ev_if_ne (pc := 36) (tgt := 43) dX10_unit_36 rfl hL rfl (fun hL => ?_) (fun hL => ?_)
      · refine ev_iconst (pc := 39) dX10_unit_39 ?_
        refine ev_goto (pc := 40) (tgt := 44) dX10_unit_40 rfl ?_
        exact evB_zret (pc := 44) dX10_unit_44 rfl rfl hL
      · refine ev_iconst (pc := 43) dX10_unit_43 ?_
        exact evB_zret (pc := 44) dX10_unit_44 rfl rfl hL
  · refine ev_iload_n (pc := 45) (i := 1) dX10_unit_45 rfl rfl ?_
    refine ev_bipush (pc := 46) dX10_unit_46 (by decide) ?_
    refine ev_icmp_ne (pc := 48) (tgt := 90) dX10_unit_48 rfl hL rfl (fun hL => ?_) (fun hL => ?_)
    · refine ev_aload_n (pc := 51) (i := 0) dX10_unit_51 rfl rfl ?_
      obtain ⟨r12, h13, hc14, hL⟩ := cl_un hL
      refine evB_callV_I (pc := 52) (M_Md_goesIn hc14) dX10_unit_52 mt_Md_goesIn st_Md_goesIn ml_Md_158 hs1 (by decide) ⟨_, rfl, rfl⟩ (by omega) rfl rfl (Nat.le_trans sm_z (by decide)) ?_
      refine ev_if_ne (pc := 55) (tgt := 60) dX10_unit_55 rfl hL rfl (fun hL => ?_) (fun hL => ?_)
      · refine ev_iconst (pc := 58) dX10_unit_58 ?_
        exact evB_zret (pc := 59) dX10_unit_59 rfl rfl hL
      · refine ev_aload_n (pc := 60) (i := 0) dX10_unit_60 rfl rfl ?_
        refine ev_iconst (pc := 61) dX10_unit_61 ?_
        refine ev_iconst (pc := 62) dX10_unit_62 ?_
        obtain ⟨r15, h16, hc17, hL⟩ := cl_un hL
        refine evB_callV_I (pc := 63) (MB_Md_condition hkf hc17) dX10_unit_63 mt_Md_condition st_Md_condition ml_Md_187 hs1 (by decide) ⟨_, rfl, rfl⟩ (by omega) rfl rfl (Nat.le_trans sm_z (by decide)) ?_
        refine ev_istore_n (pc := 66) (i := 2) dX10_unit_66 rfl (lnl_v rfl rfl) (Nat.le_of_ble_eq_true rfl) ?_
        refine ev_aload_n (pc := 67) (i := 0) dX10_unit_67 rfl rfl ?_
        refine ev_bipush (pc := 68) dX10_unit_68 (by decide) ?_
        obtain ⟨r18, h19, hc20, hL⟩ := cl_un hL
        refine evB_callV_I (pc := 70) (M_Md_takes hc20) dX10_unit_70 mt_Md_takes st_Md_takes ml_Md_164 hs1 (by decide) ⟨_, rfl, rfl⟩ (by omega) rfl rfl (Nat.le_trans sm_z (by decide)) ?_
        refine ev_if_ne (pc := 73) (tgt := 78) dX10_unit_73 rfl hL rfl (fun hL => ?_) (fun hL => ?_)
        · refine ev_iconst (pc := 76) dX10_unit_76 ?_
          exact evB_zret (pc := 77) dX10_unit_77 rfl rfl hL
        · refine ev_aload_n (pc := 78) (i := 0) dX10_unit_78 rfl rfl ?_
          refine ev_dup (pc := 79) dX10_unit_79 (cat_aV _ _) ?_
          refine ev_get (pc := 80) (c9 := 10) (k9 := 12) dX10_unit_80 fl_Md_131 (by decide) hs1 gv10_12 ?_
          refine ev_iconst (pc := 83) dX10_unit_83 ?_
          refine ev_isub (pc := 84) dX10_unit_84 ?_
          refine evB_putI (pc := 85) (c9 := 10) (k9 := 12) (kI := 12) dX10_unit_85 fl_Md_131 hs1 (by decide) (fun q hq => by cases hq; rfl) rfl rfl rfl ?_
          refine ev_puG hL (fun h21 hL => ?_)
          refine ev_iload_n (pc := 88) (i := 2) dX10_unit_88 rfl rfl ?_
          exact evB_zret (pc := 89) dX10_unit_89 rfl rfl hL
    · refine ev_aload_n (pc := 90) (i := 0) dX10_unit_90 rfl rfl ?_
      refine ev_iconst (pc := 91) dX10_unit_91 ?_
      refine ev_iconst (pc := 92) dX10_unit_92 ?_
      obtain ⟨r22, h23, hc24, hL⟩ := cl_un hL
      refine evB_callV_I (pc := 93) (M_Md_compares hc24) dX10_unit_93 mt_Md_compares st_Md_compares ml_Md_191 hs1 (by decide) ⟨_, rfl, rfl⟩ (by omega) rfl rfl (Nat.le_trans sm_z (by decide)) ?_
      exact evB_zret (pc := 96) dX10_unit_96 rfl rfl hL
set_option maxHeartbeats 1000000 in
set_option maxRecDepth 100000 in
theorem MR_Md_unit {ω : Wd} {z : Nat → Prop} : ∀ (n : Nat) (s : Hp × Int) (o : Int × Hp), itr (fun k s => Md_unit_body k s.1 s.2) n s = some o → CtB ω N_Md_unit (n * 100) [aV ω s.2] z s.1 (some (iV o.1)) o.2 := by
  refine itr_rec (P := fun (n : Nat) (s : Hp × Int) (o : Int × Hp) => CtB ω N_Md_unit (n * 100) [aV ω s.2] z s.1 (some (iV o.1)) o.2) (fun n k hk s o h9 => ?_)
  have := MB_Md_unit (ω := ω) (z := z) (h := s.1) (a0 := s.2) (r := o.1) (h' := o.2) hk h9
  rwa [show n * 100 + 100 = (n + 1) * 100 from by omega] at this
set_option maxHeartbeats 1000000 in
set_option maxRecDepth 100000 in
theorem M_Md_unit {ω : Wd} {z : Nat → Prop} {h h' : Hp} {a0 r : Int} (hL : Md_unit h a0 = some (r, h')) : CtB ω N_Md_unit 1200 [aV ω a0] z h (some (iV r)) h' := by
  unfold Md_unit Md_unit_f at hL
  exact MR_Md_unit RF (h, a0) (r, h') hL
set_option maxRecDepth 100000 in
theorem M_Md_part {ω : Wd} {z : Nat → Prop} {h h' : Hp} {a0 a1 a2 r : Int} (hL : Md_part Md_unit_f h a0 a1 a2 = some (r, h')) : CtB ω N_Md_part 1298 [aV ω a0, iV a1, iV a2] z h (some (iV r)) h' := MB_Md_part (d0 := 1200) (fun s o g => MR_Md_unit RF s o (by unfold Md_unit_f at g; exact g)) hL
set_option maxRecDepth 100000 in
theorem M_Md_condition {ω : Wd} {z : Nat → Prop} {h h' : Hp} {a0 a1 a2 r : Int} (hL : Md_condition Md_unit_f h a0 a1 a2 = some (r, h')) : CtB ω N_Md_condition 1299 [aV ω a0, iV a1, iV a2] z h (some (iV r)) h' := MB_Md_condition (d0 := 1200) (fun s o g => MR_Md_unit RF s o (by unfold Md_unit_f at g; exact g)) hL
set_option maxHeartbeats 1000000 in
set_option maxRecDepth 100000 in
theorem KMd_clause_b134 {ω : Wd} {z : Nat → Prop}  {h h' : Hp} {x0 x1 x2 x3 r : Int}  (hL : Md_clause_b134 h x0 x1 x2 x3 = some (r, h')) : EvB ω N_Md_clause 1300 (QB none z h') z h 134 [some (aV ω x0), some (iV x1), some (iV x2), some (iV x3), none] [] := by
  unfold Md_clause_b134 at hL
  refine ev_aload_n (pc := 134) (i := 0) dX10_clause_134 rfl rfl ?_
  obtain ⟨hs28, hL⟩ := cC_un hL
  refine ev_get (pc := 135) (c9 := 10) (k9 := 11) dX10_clause_135 fl_Md_128 (by decide) hs28 gv10_11 ?_
  refine ev_iconst (pc := 138) dX10_clause_138 ?_
  refine ev_icmp_ne (pc := 139) (tgt := 161) dX10_clause_139 rfl hL rfl (fun hL => ?_) (fun hL => ?_)
  · refine ev_aload_n (pc := 142) (i := 0) dX10_clause_142 rfl rfl ?_
    refine ev_get (pc := 143) (c9 := 10) (k9 := 17) dX10_clause_143 fl_Md_197 (by decide) hs28 gv10_17 ?_
    refine ev_if_ne (pc := 146) (tgt := 161) dX10_clause_146 rfl hL rfl (fun hL => ?_) (fun hL => ?_)
    · refine ev_iload_n (pc := 149) (i := 1) dX10_clause_149 rfl rfl ?_
      refine ev_aload_n (pc := 150) (i := 0) dX10_clause_150 rfl rfl ?_
      refine ev_get (pc := 151) (c9 := 10) (k9 := 13) dX10_clause_151 fl_Md_201 (by decide) hs28 gv10_13 ?_
      refine ev_icmp_ne (pc := 154) (tgt := 161) dX10_clause_154 rfl hL rfl (fun hL => ?_) (fun hL => ?_)
      · refine ev_iload_n (pc := 157) (i := 2) dX10_clause_157 rfl rfl ?_
        refine ev_if_ne (pc := 158) (tgt := 162) dX10_clause_158 rfl hL rfl (fun hL => ?_) (fun hL => ?_)
        · exact evB_vret (pc := 161) dX10_clause_161 rfl hL
        · refine ev_aload_n (pc := 162) (i := 0) dX10_clause_162 rfl rfl ?_
          refine ev_iconst (pc := 163) dX10_clause_163 ?_
          refine evB_putZ (pc := 164) (c9 := 10) (k9 := 17) (kI := 17) dX10_clause_164 fl_Md_197 hs28 (by decide) (fun q hq => by cases hq; rfl) rfl rfl (by decide) rfl ?_
          refine ev_puG hL (fun h29 hL => ?_)
          refine ev_aload_n (pc := 167) (i := 0) dX10_clause_167 rfl rfl ?_
          refine ev_iload_n (pc := 168) (i := 3) dX10_clause_168 rfl rfl ?_
          refine evB_putI (pc := 169) (c9 := 10) (k9 := 14) (kI := 14) dX10_clause_169 fl_Md_204 hs28 (by decide) (fun q hq => by cases hq; rfl) rfl rfl rfl ?_
          refine ev_puG hL (fun h30 hL => ?_)
          exact evB_vret (pc := 172) dX10_clause_172 rfl hL
      · exact evB_vret (pc := 161) dX10_clause_161 rfl hL
    · exact evB_vret (pc := 161) dX10_clause_161 rfl hL
  · exact evB_vret (pc := 161) dX10_clause_161 rfl hL
set_option maxHeartbeats 1000000 in
set_option maxRecDepth 100000 in
theorem KMd_clause_b64 {ω : Wd} {z : Nat → Prop}  {h h' : Hp} {x0 x1 r : Int}  (hL : Md_clause_b64 h x0 x1 = some (r, h')) : EvB ω N_Md_clause 1300 (QB none z h') z h 64 [some (aV ω x0), some (iV x1), none, none, none] [] := by
  unfold Md_clause_b64 at hL
  refine ev_aload_n (pc := 64) (i := 0) dX10_clause_64 rfl rfl ?_
  refine ev_iconst (pc := 65) dX10_clause_65 ?_
  refine ev_iconst (pc := 66) dX10_clause_66 ?_
  obtain ⟨hs18, hL⟩ := cC_un hL
  obtain ⟨r19, h20, hc21, hL⟩ := cl_un hL
  refine evB_callV_I (pc := 67) (M_Md_condition hc21) dX10_clause_67 mt_Md_condition st_Md_condition ml_Md_187 hs18 (by decide) ⟨_, rfl, rfl⟩ (Nat.le_of_ble_eq_true rfl) rfl rfl (Nat.le_trans sm_z (by decide)) ?_
  refine ev_istore_n (pc := 70) (i := 2) dX10_clause_70 rfl (lnl_v rfl rfl) (Nat.le_of_ble_eq_true rfl) ?_
  refine ev_aload_n (pc := 71) (i := 0) dX10_clause_71 rfl rfl ?_
  refine ev_bipush (pc := 72) dX10_clause_72 (by decide) ?_
  obtain ⟨r22, h23, hc24, hL⟩ := cl_un hL
  refine evB_callV_I (pc := 74) (M_Md_takes hc24) dX10_clause_74 mt_Md_takes st_Md_takes ml_Md_164 hs18 (by decide) ⟨_, rfl, rfl⟩ (Nat.le_of_ble_eq_true rfl) rfl rfl (Nat.le_trans sm_z (by decide)) ?_
  refine ev_if_ne (pc := 77) (tgt := 81) dX10_clause_77 rfl hL rfl (fun hL => ?_) (fun hL => ?_)
  · exact evB_vret (pc := 80) dX10_clause_80 rfl hL
  · refine ev_aload_n (pc := 81) (i := 0) dX10_clause_81 rfl rfl ?_
    obtain ⟨r25, h26, hc27, hL⟩ := cl_un hL
    refine evB_callV_I (pc := 82) (M_Md_sum hc27) dX10_clause_82 mt_Md_sum st_Md_sum ml_Md_161 hs18 (by decide) ⟨_, rfl, rfl⟩ (Nat.le_of_ble_eq_true rfl) rfl rfl (Nat.le_trans sm_z (by decide)) ?_
    refine ev_istore_n (pc := 85) (i := 3) dX10_clause_85 rfl (lnl_v rfl rfl) (Nat.le_of_ble_eq_true rfl) ?_
    refine ev_goto (pc := 86) (tgt := 134) dX10_clause_86 rfl ?_
    exact ev_le (lvle_s (lvle_s (lvle_s (lvle_s (lvle_n lvle_z))))) (KMd_clause_b134  hL)
set_option maxHeartbeats 1000000 in
set_option maxRecDepth 100000 in
theorem M_Md_clause {ω : Wd} {z : Nat → Prop} {h h' : Hp} {a0 r : Int}  (hL : Md_clause h a0 = some (r, h')) : CtB ω N_Md_clause 1300 [aV ω a0] z h none h' := by
  unfold Md_clause at hL
  refine Ct_of (lv := [some (aV ω a0), none, none, none, none]) (by decide) (Nat.le_trans (sl_1 (cat_aV _ _) sl_z) (Nat.le_of_ble_eq_true rfl)) (la_1 (cat_aV _ _) (la_n (la_n (la_n (la_n la_z))))) ?_
  refine ev_aload_n (pc := 0) (i := 0) dX10_clause_0 rfl rfl ?_
  obtain ⟨hs1, hL⟩ := cC_un hL
  obtain ⟨r2, h3, hc4, hL⟩ := cl_un hL
  refine evB_callV_I (pc := 1) (M_Md_look hc4) dX10_clause_1 mt_Md_look st_Md_look ml_Md_138 hs1 (by decide) ⟨_, rfl, rfl⟩ (Nat.le_of_ble_eq_true rfl) rfl rfl (Nat.le_trans sm_z (by decide)) ?_
  refine ev_istore_n (pc := 4) (i := 1) dX10_clause_4 rfl (lnl_v (cat_aV _ _) rfl) (Nat.le_of_ble_eq_true rfl) ?_
  refine ev_ldcS (pc := 5) (n := 1) (by decide) rfl rfl dX10_clause_5 ?_
  refine ev_iload_n (pc := 7) (i := 1) dX10_clause_7 rfl rfl ?_
  obtain ⟨r5, h6, hc7, hL⟩ := cl_un hL
  refine evB_callS_I (pc := 8) (M_Md_isAmong hc7) dX10_clause_8 mt_Md_isAmong st_Md_isAmong ml_Md_154 (Nat.le_of_ble_eq_true rfl) rfl rfl (Nat.le_trans sm_z (by decide)) ?_
  refine ev_if_ne (pc := 11) (tgt := 20) dX10_clause_11 rfl hL rfl (fun hL => ?_) (fun hL => ?_)
  · refine ev_aload_n (pc := 14) (i := 0) dX10_clause_14 rfl rfl ?_
    obtain ⟨r8, h9, hc10, hL⟩ := cl_un hL
    refine evB_callV_I (pc := 15) (M_Md_fails hc10) dX10_clause_15 mt_Md_fails st_Md_fails ml_Md_134 hs1 (by decide) ⟨_, rfl, rfl⟩ (Nat.le_of_ble_eq_true rfl) rfl rfl (Nat.le_trans sm_z (by decide)) ?_
    refine ev_pop (pc := 18) dX10_clause_18 rfl ?_
    exact evB_vret (pc := 19) dX10_clause_19 rfl hL
  · refine ev_aload_n (pc := 20) (i := 0) dX10_clause_20 rfl rfl ?_
    refine ev_dup (pc := 21) dX10_clause_21 (cat_aV _ _) ?_
    refine ev_get (pc := 22) (c9 := 10) (k9 := 10) dX10_clause_22 fl_Md_119 (by decide) hs1 gv10_10 ?_
    refine ev_iconst (pc := 25) dX10_clause_25 ?_
    refine ev_iadd (pc := 26) dX10_clause_26 ?_
    refine evB_putI (pc := 27) (c9 := 10) (k9 := 10) (kI := 10) dX10_clause_27 fl_Md_119 hs1 (by decide) (fun q hq => by cases hq; rfl) rfl rfl rfl ?_
    refine ev_puG hL (fun h11 hL => ?_)
    refine ev_aload_n (pc := 30) (i := 0) dX10_clause_30 rfl rfl ?_
    refine ev_bipush (pc := 31) dX10_clause_31 (by decide) ?_
    obtain ⟨r12, h13, hc14, hL⟩ := cl_un hL
    refine evB_callV_I (pc := 33) (M_Md_takes hc14) dX10_clause_33 mt_Md_takes st_Md_takes ml_Md_164 hs1 (by decide) ⟨_, rfl, rfl⟩ (Nat.le_of_ble_eq_true rfl) rfl rfl (Nat.le_trans sm_z (by decide)) ?_
    refine ev_if_ne (pc := 36) (tgt := 40) dX10_clause_36 rfl hL rfl (fun hL => ?_) (fun hL => ?_)
    · exact evB_vret (pc := 39) dX10_clause_39 rfl hL
    · refine ev_iconst (pc := 40) dX10_clause_40 ?_
      refine ev_istore_n (pc := 41) (i := 2) dX10_clause_41 rfl (lnl_v rfl rfl) (Nat.le_of_ble_eq_true rfl) ?_
      refine ev_iconst (pc := 42) dX10_clause_42 ?_
      refine ev_istore_n (pc := 43) (i := 3) dX10_clause_43 rfl (lnl_v rfl rfl) (Nat.le_of_ble_eq_true rfl) ?_
      refine ev_aload_n (pc := 44) (i := 0) dX10_clause_44 rfl rfl ?_
      obtain ⟨r15, h16, hc17, hL⟩ := cl_un hL
      refine evB_callV_I (pc := 45) (M_Md_look hc17) dX10_clause_45 mt_Md_look st_Md_look ml_Md_138 hs1 (by decide) ⟨_, rfl, rfl⟩ (Nat.le_of_ble_eq_true rfl) rfl rfl (Nat.le_trans sm_z (by decide)) ?_
      refine ev_istore (pc := 48) dX10_clause_48 (lnl_v rfl rfl) (Nat.le_of_ble_eq_true rfl) ?_
      refine ev_iload (pc := 50) dX10_clause_50 rfl ?_
      refine ev_bipush (pc := 52) dX10_clause_52 (by decide) ?_
      refine ev_icmp_eq (pc := 54) (tgt := 64) dX10_clause_54 rfl hL rfl (fun hL => ?_) (fun hL => ?_)
      · exact ev_le (lvle_s (lvle_s (lvle_n (lvle_n (lvle_n lvle_z))))) (KMd_clause_b64  hL)
      · refine ev_iload (pc := 57) dX10_clause_57 rfl ?_
        refine ev_bipush (pc := 59) dX10_clause_59 (by decide) ?_
        refine ev_icmp_ne (pc := 61) (tgt := 89) dX10_clause_61 rfl hL rfl (fun hL => ?_) (fun hL => ?_)
        · exact ev_le (lvle_s (lvle_s (lvle_n (lvle_n (lvle_n lvle_z))))) (KMd_clause_b64  hL)
        · refine ev_aload_n (pc := 89) (i := 0) dX10_clause_89 rfl rfl ?_
          obtain ⟨r31, h32, hc33, hL⟩ := cl_un hL
          refine evB_callV_I (pc := 90) (M_Md_sum hc33) dX10_clause_90 mt_Md_sum st_Md_sum ml_Md_161 hs1 (by decide) ⟨_, rfl, rfl⟩ (Nat.le_of_ble_eq_true rfl) rfl rfl (Nat.le_trans sm_z (by decide)) ?_
          refine ev_istore_n (pc := 93) (i := 3) dX10_clause_93 rfl (lnl_v rfl rfl) (Nat.le_of_ble_eq_true rfl) ?_
          refine ev_aload_n (pc := 94) (i := 0) dX10_clause_94 rfl rfl ?_
          refine ev_get (pc := 95) (c9 := 10) (k9 := 11) dX10_clause_95 fl_Md_128 (by decide) hs1 gv10_11 ?_
          refine ev_iconst (pc := 98) dX10_clause_98 ?_
          refine ev_icmp_ne (pc := 99) (tgt := 134) dX10_clause_99 rfl hL rfl (fun hL => ?_) (fun hL => ?_)
          · refine ev_aload_n (pc := 102) (i := 0) dX10_clause_102 rfl rfl ?_
            obtain ⟨r34, h35, hc36, hL⟩ := cl_un hL
            refine evB_callV_I (pc := 103) (M_Md_look hc36) dX10_clause_103 mt_Md_look st_Md_look ml_Md_138 hs1 (by decide) ⟨_, rfl, rfl⟩ (Nat.le_of_ble_eq_true rfl) rfl rfl (Nat.le_trans sm_z (by decide)) ?_
            obtain ⟨r37, h38, hc39, hL⟩ := cl_un hL
            refine evB_callS_I (pc := 106) (M_Md_isSign hc39) dX10_clause_106 mt_Md_isSign st_Md_isSign ml_Md_181 (Nat.le_of_ble_eq_true rfl) rfl rfl (Nat.le_trans sm_z (by decide)) ?_
            refine ev_if_eq (pc := 109) (tgt := 134) dX10_clause_109 rfl hL rfl (fun hL => ?_) (fun hL => ?_)
            · exact ev_le (lvle_s (lvle_s (lvle_s (lvle_s (lvle_n lvle_z))))) (KMd_clause_b134  hL)
            · refine ev_aload_n (pc := 112) (i := 0) dX10_clause_112 rfl rfl ?_
              refine ev_iconst (pc := 113) dX10_clause_113 ?_
              refine ev_iload_n (pc := 114) (i := 3) dX10_clause_114 rfl rfl ?_
              obtain ⟨r40, h41, hc42, hL⟩ := cl_un hL
              refine evB_callV_I (pc := 115) (M_Md_condition hc42) dX10_clause_115 mt_Md_condition st_Md_condition ml_Md_187 hs1 (by decide) ⟨_, rfl, rfl⟩ (Nat.le_of_ble_eq_true rfl) rfl rfl (Nat.le_trans sm_z (by decide)) ?_
              refine ev_istore_n (pc := 118) (i := 2) dX10_clause_118 rfl (lnl_v rfl rfl) (Nat.le_of_ble_eq_true rfl) ?_
              refine ev_aload_n (pc := 119) (i := 0) dX10_clause_119 rfl rfl ?_
              refine ev_bipush (pc := 120) dX10_clause_120 (by decide) ?_
              obtain ⟨r43, h44, hc45, hL⟩ := cl_un hL
              refine evB_callV_I (pc := 122) (M_Md_takes hc45) dX10_clause_122 mt_Md_takes st_Md_takes ml_Md_164 hs1 (by decide) ⟨_, rfl, rfl⟩ (Nat.le_of_ble_eq_true rfl) rfl rfl (Nat.le_trans sm_z (by decide)) ?_
              refine ev_if_ne (pc := 125) (tgt := 129) dX10_clause_125 rfl hL rfl (fun hL => ?_) (fun hL => ?_)
              · exact evB_vret (pc := 128) dX10_clause_128 rfl hL
              · refine ev_aload_n (pc := 129) (i := 0) dX10_clause_129 rfl rfl ?_
                obtain ⟨r46, h47, hc48, hL⟩ := cl_un hL
                refine evB_callV_I (pc := 130) (M_Md_sum hc48) dX10_clause_130 mt_Md_sum st_Md_sum ml_Md_161 hs1 (by decide) ⟨_, rfl, rfl⟩ (Nat.le_of_ble_eq_true rfl) rfl rfl (Nat.le_trans sm_z (by decide)) ?_
                refine ev_istore_n (pc := 133) (i := 3) dX10_clause_133 rfl (lnl_v rfl rfl) (Nat.le_of_ble_eq_true rfl) ?_
                exact ev_le (lvle_s (lvle_s (lvle_s (lvle_s (lvle_n lvle_z))))) (KMd_clause_b134  hL)
          · exact ev_le (lvle_s (lvle_s (lvle_s (lvle_s (lvle_n lvle_z))))) (KMd_clause_b134  hL)
set_option maxHeartbeats 1000000 in
set_option maxRecDepth 100000 in
theorem M_Md_starts {ω : Wd} {z : Nat → Prop} {h h' : Hp} {a0 a1 a2 a3 r : Int}  (hL : Md_starts h a0 a1 a2 a3 = some (r, h')) : CtB ω N_Md_starts 1 [aV ω a0, aV ω a1, iV a2, iV a3] z h none h' := by
  unfold Md_starts at hL
  refine Ct_of (lv := [some (aV ω a0), some (aV ω a1), some (iV a2), some (iV a3)]) (by decide) (Nat.le_trans (sl_1 (cat_aV _ _) (sl_1 (cat_aV _ _) (sl_1 (cat_iV _) (sl_1 (cat_iV _) sl_z)))) (Nat.le_of_ble_eq_true rfl)) (la_1 (cat_aV _ _) (la_1 (cat_aV _ _) (la_1 (cat_iV _) (la_1 (cat_iV _) la_z)))) ?_
  refine ev_aload_n (pc := 0) (i := 0) dX10_starts_0 rfl rfl ?_
  refine ev_aload_n (pc := 1) (i := 1) dX10_starts_1 rfl rfl ?_
  obtain ⟨hs1, hL⟩ := cC_un hL
  refine evB_putA (pc := 2) (c9 := 10) (k9 := 5) (kI := 5) dX10_starts_2 fl_Md_23 hs1 (by decide) (fun q hq => by cases hq; rfl) rfl rfl rfl ?_
  refine ev_puG hL (fun h2 hL => ?_)
  refine ev_aload_n (pc := 5) (i := 0) dX10_starts_5 rfl rfl ?_
  refine ev_iload_n (pc := 6) (i := 2) dX10_starts_6 rfl rfl ?_
  refine evB_putI (pc := 7) (c9 := 10) (k9 := 8) (kI := 8) dX10_starts_7 fl_Md_125 hs1 (by decide) (fun q hq => by cases hq; rfl) rfl rfl rfl ?_
  refine ev_puG hL (fun h3 hL => ?_)
  refine ev_aload_n (pc := 10) (i := 0) dX10_starts_10 rfl rfl ?_
  refine ev_iload_n (pc := 11) (i := 3) dX10_starts_11 rfl rfl ?_
  refine evB_putI (pc := 12) (c9 := 10) (k9 := 9) (kI := 9) dX10_starts_12 fl_Md_122 hs1 (by decide) (fun q hq => by cases hq; rfl) rfl rfl rfl ?_
  refine ev_puG hL (fun h4 hL => ?_)
  refine ev_aload_n (pc := 15) (i := 0) dX10_starts_15 rfl rfl ?_
  refine ev_iconst (pc := 16) dX10_starts_16 ?_
  refine evB_putI (pc := 17) (c9 := 10) (k9 := 10) (kI := 10) dX10_starts_17 fl_Md_119 hs1 (by decide) (fun q hq => by cases hq; rfl) rfl rfl rfl ?_
  refine ev_puG hL (fun h5 hL => ?_)
  refine ev_aload_n (pc := 20) (i := 0) dX10_starts_20 rfl rfl ?_
  refine ev_iconst (pc := 21) dX10_starts_21 ?_
  refine evB_putI (pc := 22) (c9 := 10) (k9 := 11) (kI := 11) dX10_starts_22 fl_Md_128 hs1 (by decide) (fun q hq => by cases hq; rfl) rfl rfl rfl ?_
  refine ev_puG hL (fun h6 hL => ?_)
  exact evB_vret (pc := 25) dX10_starts_25 rfl hL
set_option maxHeartbeats 1000000 in
set_option maxRecDepth 100000 in
theorem KMd_goThrough_b66 {ω : Wd} {z : Nat → Prop}  {h h' : Hp} {x0 r : Int}  (hL : Md_goThrough_b66 h x0 = some (r, h')) : EvB ω N_Md_goThrough 1301 (QB none z h') z h 66 [some (aV ω x0), none, none, none] [] := by
  unfold Md_goThrough_b66 at hL
  refine ev_aload_n (pc := 66) (i := 0) dX10_goThrough_66 rfl rfl ?_
  obtain ⟨hs20, hL⟩ := cC_un hL
  refine ev_get (pc := 67) (c9 := 10) (k9 := 11) dX10_goThrough_67 fl_Md_128 (by decide) hs20 gv10_11 ?_
  refine ev_iconst (pc := 70) dX10_goThrough_70 ?_
  refine ev_icmp_ne (pc := 71) (tgt := 87) dX10_goThrough_71 rfl hL rfl (fun hL => ?_) (fun hL => ?_)
  · refine ev_aload_n (pc := 74) (i := 0) dX10_goThrough_74 rfl rfl ?_
    obtain ⟨r21, h22, hc23, hL⟩ := cl_un hL
    refine evB_callV_I (pc := 75) (M_Md_look hc23) dX10_goThrough_75 mt_Md_look st_Md_look ml_Md_138 hs20 (by decide) ⟨_, rfl, rfl⟩ (Nat.le_of_ble_eq_true rfl) rfl rfl (Nat.le_trans sm_z (by decide)) ?_
    refine ev_iconst (pc := 78) dX10_goThrough_78 ?_
    refine ev_icmp_eq (pc := 79) (tgt := 87) dX10_goThrough_79 rfl hL rfl (fun hL => ?_) (fun hL => ?_)
    · exact evB_vret (pc := 87) dX10_goThrough_87 rfl hL
    · refine ev_aload_n (pc := 82) (i := 0) dX10_goThrough_82 rfl rfl ?_
      obtain ⟨r24, h25, hc26, hL⟩ := cl_un hL
      refine evB_callV_I (pc := 83) (M_Md_fails hc26) dX10_goThrough_83 mt_Md_fails st_Md_fails ml_Md_134 hs20 (by decide) ⟨_, rfl, rfl⟩ (Nat.le_of_ble_eq_true rfl) rfl rfl (Nat.le_trans sm_z (by decide)) ?_
      refine ev_pop (pc := 86) dX10_goThrough_86 rfl ?_
      exact evB_vret (pc := 87) dX10_goThrough_87 rfl hL
  · exact evB_vret (pc := 87) dX10_goThrough_87 rfl hL
set_option maxHeartbeats 1000000 in
set_option maxRecDepth 100000 in
theorem KMd_goThrough_b32_body {ω : Wd} {z : Nat → Prop}  {k32 : Hp × Int → Option (Int × Hp)} {h h' : Hp} {x0 r : Int}  (hk32 : ∀ s o, k32 s = some o → EvB ω N_Md_goThrough 1301 (QB none z o.2) z s.1 32 [some (aV ω s.2), none, none, none] []) (hL : Md_goThrough_b32_body  k32 h x0 = some (r, h')) : EvB ω N_Md_goThrough 1301 (QB none z h') z h 32 [some (aV ω x0), none, none, none] [] := by
  unfold Md_goThrough_b32_body at hL
  refine ev_aload_n (pc := 32) (i := 0) dX10_goThrough_32 rfl rfl ?_
  obtain ⟨hs12, hL⟩ := cC_un hL
  refine ev_get (pc := 33) (c9 := 10) (k9 := 11) dX10_goThrough_33 fl_Md_128 (by decide) hs12 gv10_11 ?_
  refine ev_iconst (pc := 36) dX10_goThrough_36 ?_
  refine ev_icmp_ne (pc := 37) (tgt := 66) dX10_goThrough_37 rfl hL rfl (fun hL => ?_) (fun hL => ?_)
  · refine ev_aload_n (pc := 40) (i := 0) dX10_goThrough_40 rfl rfl ?_
    obtain ⟨r13, h14, hc15, hL⟩ := cl_un hL
    refine evB_callV_I (pc := 41) (M_Md_look hc15) dX10_goThrough_41 mt_Md_look st_Md_look ml_Md_138 hs12 (by decide) ⟨_, rfl, rfl⟩ (Nat.le_of_ble_eq_true rfl) rfl rfl (Nat.le_trans sm_z (by decide)) ?_
    refine ev_bipush (pc := 44) dX10_goThrough_44 (by decide) ?_
    refine ev_icmp_ne (pc := 46) (tgt := 66) dX10_goThrough_46 rfl hL rfl (fun hL => ?_) (fun hL => ?_)
    · refine ev_aload_n (pc := 49) (i := 0) dX10_goThrough_49 rfl rfl ?_
      refine ev_dup (pc := 50) dX10_goThrough_50 (cat_aV _ _) ?_
      refine ev_get (pc := 51) (c9 := 10) (k9 := 10) dX10_goThrough_51 fl_Md_119 (by decide) hs12 gv10_10 ?_
      refine ev_iconst (pc := 54) dX10_goThrough_54 ?_
      refine ev_iadd (pc := 55) dX10_goThrough_55 ?_
      refine evB_putI (pc := 56) (c9 := 10) (k9 := 10) (kI := 10) dX10_goThrough_56 fl_Md_119 hs12 (by decide) (fun q hq => by cases hq; rfl) rfl rfl rfl ?_
      refine ev_puG hL (fun h16 hL => ?_)
      refine ev_aload_n (pc := 59) (i := 0) dX10_goThrough_59 rfl rfl ?_
      obtain ⟨r17, h18, hc19, hL⟩ := cl_un hL
      refine evB_callV_V (pc := 60) (M_Md_clause hc19) dX10_goThrough_60 mt_Md_clause st_Md_clause ml_Md_211 hs12 (by decide) ⟨_, rfl, rfl⟩ (Nat.le_of_ble_eq_true rfl) rfl rfl (Nat.le_trans sm_z (by decide)) ?_
      refine ev_goto (pc := 63) (tgt := 32) dX10_goThrough_63 rfl ?_
      exact ev_le (lvle_s (lvle_n (lvle_n (lvle_n lvle_z)))) (hk32 _ _ hL)
    · exact ev_le (lvle_s (lvle_n (lvle_n (lvle_n lvle_z)))) (KMd_goThrough_b66  hL)
  · exact ev_le (lvle_s (lvle_n (lvle_n (lvle_n lvle_z)))) (KMd_goThrough_b66  hL)
set_option maxHeartbeats 1000000 in
set_option maxRecDepth 100000 in
theorem KMd_goThrough_b32 {ω : Wd} {z : Nat → Prop}  {h h' : Hp} {x0 r : Int}  (hL : Md_goThrough_b32 h x0 = some (r, h')) : EvB ω N_Md_goThrough 1301 (QB none z h') z h 32 [some (aV ω x0), none, none, none] [] := by
  unfold Md_goThrough_b32 at hL
  refine itr_link (P := fun (s : Hp × Int) (o : Int × Hp) => EvB ω N_Md_goThrough 1301 (QB none z o.2) z s.1 32 [some (aV ω s.2), none, none, none] []) ?_ _ _ _ hL
  intro k hk s o h9
  have h10 := KMd_goThrough_b32_body (ω := ω) (z := z) (k32 := k) (h := s.1) (x0 := s.2) (r := o.1) (h' := o.2) 
  exact h10 hk h9
set_option maxHeartbeats 1000000 in
set_option maxRecDepth 100000 in
theorem M_Md_goThrough {ω : Wd} {z : Nat → Prop} {h h' : Hp} {a0 a1 a2 a3 r : Int}  (hL : Md_goThrough h a0 a1 a2 a3 = some (r, h')) : CtB ω N_Md_goThrough 1301 [aV ω a0, aV ω a1, iV a2, iV a3] z h none h' := by
  unfold Md_goThrough at hL
  refine Ct_of (lv := [some (aV ω a0), some (aV ω a1), some (iV a2), some (iV a3)]) (by decide) (Nat.le_trans (sl_1 (cat_aV _ _) (sl_1 (cat_aV _ _) (sl_1 (cat_iV _) (sl_1 (cat_iV _) sl_z)))) (Nat.le_of_ble_eq_true rfl)) (la_1 (cat_aV _ _) (la_1 (cat_aV _ _) (la_1 (cat_iV _) (la_1 (cat_iV _) la_z)))) ?_
  refine ev_aload_n (pc := 0) (i := 0) dX10_goThrough_0 rfl rfl ?_
  refine ev_aload_n (pc := 1) (i := 1) dX10_goThrough_1 rfl rfl ?_
  refine ev_iload_n (pc := 2) (i := 2) dX10_goThrough_2 rfl rfl ?_
  refine ev_iload_n (pc := 3) (i := 3) dX10_goThrough_3 rfl rfl ?_
  obtain ⟨hs1, hL⟩ := cC_un hL
  obtain ⟨r2, h3, hc4, hL⟩ := cl_un hL
  refine evB_callV_V (pc := 4) (M_Md_starts hc4) dX10_goThrough_4 mt_Md_starts st_Md_starts ml_Md_207 hs1 (by decide) ⟨_, rfl, rfl⟩ (Nat.le_of_ble_eq_true rfl) rfl rfl (Nat.le_trans sm_z (by decide)) ?_
  refine ev_aload_n (pc := 7) (i := 0) dX10_goThrough_7 rfl rfl ?_
  refine ev_bipush (pc := 8) dX10_goThrough_8 (by decide) ?_
  refine evB_putI (pc := 10) (c9 := 10) (k9 := 13) (kI := 13) dX10_goThrough_10 fl_Md_201 hs1 (by decide) (fun q hq => by cases hq; rfl) rfl rfl rfl ?_
  refine ev_puG hL (fun h5 hL => ?_)
  refine ev_aload_n (pc := 13) (i := 0) dX10_goThrough_13 rfl rfl ?_
  refine ev_iconst (pc := 14) dX10_goThrough_14 ?_
  refine evB_putI (pc := 15) (c9 := 10) (k9 := 12) (kI := 12) dX10_goThrough_15 fl_Md_131 hs1 (by decide) (fun q hq => by cases hq; rfl) rfl rfl rfl ?_
  refine ev_puG hL (fun h6 hL => ?_)
  refine ev_aload_n (pc := 18) (i := 0) dX10_goThrough_18 rfl rfl ?_
  refine ev_iconst (pc := 19) dX10_goThrough_19 ?_
  refine evB_putZ (pc := 20) (c9 := 10) (k9 := 17) (kI := 17) dX10_goThrough_20 fl_Md_197 hs1 (by decide) (fun q hq => by cases hq; rfl) rfl rfl (by decide) rfl ?_
  refine ev_puG hL (fun h7 hL => ?_)
  refine ev_aload_n (pc := 23) (i := 0) dX10_goThrough_23 rfl rfl ?_
  refine ev_iconst (pc := 24) dX10_goThrough_24 ?_
  refine evB_putI (pc := 25) (c9 := 10) (k9 := 14) (kI := 14) dX10_goThrough_25 fl_Md_204 hs1 (by decide) (fun q hq => by cases hq; rfl) rfl rfl rfl ?_
  refine ev_puG hL (fun h8 hL => ?_)
  refine ev_aload_n (pc := 28) (i := 0) dX10_goThrough_28 rfl rfl ?_
  obtain ⟨r9, h10, hc11, hL⟩ := cl_un hL
  refine evB_callV_V (pc := 29) (M_Md_clause hc11) dX10_goThrough_29 mt_Md_clause st_Md_clause ml_Md_211 hs1 (by decide) ⟨_, rfl, rfl⟩ (Nat.le_of_ble_eq_true rfl) rfl rfl (Nat.le_trans sm_z (by decide)) ?_
  exact ev_le (lvle_s (lvle_n (lvle_n (lvle_n lvle_z)))) (KMd_goThrough_b32  hL)
set_option maxHeartbeats 1000000 in
set_option maxRecDepth 100000 in
theorem M_Md_worthOf {ω : Wd} {z : Nat → Prop} {h h' : Hp} {a0 a1 a2 a3 a4 a5 a6 r : Int}  (hL : Md_worthOf h a0 a1 a2 a3 a4 a5 a6 = some (r, h')) : CtB ω N_Md_worthOf 1302 [aV ω a0, iV a1, iV a2, iV a3, iV a4, iV a5, iV a6] z h (some (iV r)) h' := by
  unfold Md_worthOf at hL
  refine Ct_of (lv := [some (aV ω a0), some (iV a1), some (iV a2), some (iV a3), some (iV a4), some (iV a5), some (iV a6), none, none, none]) (by decide) (Nat.le_trans (sl_1 (cat_aV _ _) (sl_1 (cat_iV _) (sl_1 (cat_iV _) (sl_1 (cat_iV _) (sl_1 (cat_iV _) (sl_1 (cat_iV _) (sl_1 (cat_iV _) sl_z))))))) (Nat.le_of_ble_eq_true rfl)) (la_1 (cat_aV _ _) (la_1 (cat_iV _) (la_1 (cat_iV _) (la_1 (cat_iV _) (la_1 (cat_iV _) (la_1 (cat_iV _) (la_1 (cat_iV _) (la_n (la_n (la_n la_z)))))))))) ?_
  refine ev_lconst (pc := 0) (x := 1) dX10_worthOf_0 rfl ?_
  refine ev_aload_n (pc := 1) (i := 0) dX10_worthOf_1 rfl rfl ?_
  obtain ⟨hs1, hL⟩ := cC_un hL
  refine ev_get (pc := 2) (c9 := 10) (k9 := 34) dX10_worthOf_2 fl_Md_67 (by decide) hs1 gv10_34 ?_
  refine ev_i2l (pc := 5) dX10_worthOf_5 ?_
  refine ev_ladd (pc := 6) dX10_worthOf_6 ?_
  refine ev_bdL hL (fun v2 hL => ?_)
  refine ev_lstore (pc := 7) dX10_worthOf_7 (lnl_v rfl rfl) (Nat.le_of_ble_eq_true rfl) ?_
  refine ev_ldc2 (pc := 9) (x := 10) dX10_worthOf_9 w_l_Md_322 ?_
  refine ev_lload (pc := 12) dX10_worthOf_12 rfl ?_
  refine ev_lmul (pc := 14) dX10_worthOf_14 ?_
  refine ev_iload_n (pc := 15) (i := 1) dX10_worthOf_15 rfl rfl ?_
  refine ev_i2l (pc := 16) dX10_worthOf_16 ?_
  refine ev_ladd (pc := 17) dX10_worthOf_17 ?_
  refine ev_bdL hL (fun v3 hL => ?_)
  refine ev_lstore (pc := 18) dX10_worthOf_18 (lnl_v rfl rfl) (Nat.le_of_ble_eq_true rfl) ?_
  refine ev_ldc2 (pc := 20) (x := 10) dX10_worthOf_20 w_l_Md_322 ?_
  refine ev_lload (pc := 23) dX10_worthOf_23 rfl ?_
  refine ev_lmul (pc := 25) dX10_worthOf_25 ?_
  refine ev_iload_n (pc := 26) (i := 2) dX10_worthOf_26 rfl rfl ?_
  refine ev_i2l (pc := 27) dX10_worthOf_27 ?_
  refine ev_ladd (pc := 28) dX10_worthOf_28 ?_
  refine ev_bdL hL (fun v4 hL => ?_)
  refine ev_lstore (pc := 29) dX10_worthOf_29 (lnl_v rfl rfl) (Nat.le_of_ble_eq_true rfl) ?_
  refine ev_ldc2 (pc := 31) (x := 10) dX10_worthOf_31 w_l_Md_322 ?_
  refine ev_lload (pc := 34) dX10_worthOf_34 rfl ?_
  refine ev_lmul (pc := 36) dX10_worthOf_36 ?_
  refine ev_iload_n (pc := 37) (i := 3) dX10_worthOf_37 rfl rfl ?_
  refine ev_i2l (pc := 38) dX10_worthOf_38 ?_
  refine ev_ladd (pc := 39) dX10_worthOf_39 ?_
  refine ev_bdL hL (fun v5 hL => ?_)
  refine ev_lstore (pc := 40) dX10_worthOf_40 (lnl_v rfl rfl) (Nat.le_of_ble_eq_true rfl) ?_
  refine ev_le (lw := [some (aV ω a0), some (iV a1), some (iV a2), some (iV a3), some (iV a4), some (iV a5), some (iV a6), some (lV v5), none, none]) (lvle_s (lvle_s (lvle_s (lvle_s (lvle_s (lvle_s (lvle_s (lvle_s (lvle_n (lvle_n lvle_z)))))))))) ?_
  refine ev_ldc2 (pc := 42) (x := 10) dX10_worthOf_42 w_l_Md_322 ?_
  refine ev_lload (pc := 45) dX10_worthOf_45 rfl ?_
  refine ev_lmul (pc := 47) dX10_worthOf_47 ?_
  refine ev_iload (pc := 48) dX10_worthOf_48 rfl ?_
  refine ev_i2l (pc := 50) dX10_worthOf_50 ?_
  refine ev_ladd (pc := 51) dX10_worthOf_51 ?_
  refine ev_bdL hL (fun v6 hL => ?_)
  refine ev_lstore (pc := 52) dX10_worthOf_52 (lnl_v rfl rfl) (Nat.le_of_ble_eq_true rfl) ?_
  refine ev_ldc2 (pc := 54) (x := 10) dX10_worthOf_54 w_l_Md_322 ?_
  refine ev_lload (pc := 57) dX10_worthOf_57 rfl ?_
  refine ev_lmul (pc := 59) dX10_worthOf_59 ?_
  refine ev_iload (pc := 60) dX10_worthOf_60 rfl ?_
  refine ev_i2l (pc := 62) dX10_worthOf_62 ?_
  refine ev_ladd (pc := 63) dX10_worthOf_63 ?_
  refine ev_bdL hL (fun v7 hL => ?_)
  refine ev_lstore (pc := 64) dX10_worthOf_64 (lnl_v rfl rfl) (Nat.le_of_ble_eq_true rfl) ?_
  refine ev_ldc2 (pc := 66) (x := 2000) dX10_worthOf_66 w_l_Md_324 ?_
  refine ev_lload (pc := 69) dX10_worthOf_69 rfl ?_
  refine ev_lmul (pc := 71) dX10_worthOf_71 ?_
  refine ev_iload (pc := 72) dX10_worthOf_72 rfl ?_
  refine ev_i2l (pc := 74) dX10_worthOf_74 ?_
  refine ev_ladd (pc := 75) dX10_worthOf_75 ?_
  refine ev_bdL hL (fun v8 hL => ?_)
  refine ev_lstore (pc := 76) dX10_worthOf_76 (lnl_v rfl rfl) (Nat.le_of_ble_eq_true rfl) ?_
  refine ev_lload (pc := 78) dX10_worthOf_78 rfl ?_
  refine ev_ldc2 (pc := 80) (x := 8191) dX10_worthOf_80 w_l_Md_326 ?_
  refine ev_lrem (pc := 83) dX10_worthOf_83 hL (fun hL => ?_)
  refine ev_l2i (pc := 84) dX10_worthOf_84 ?_
  refine ev_bdI hL (fun v9 hL => ?_)
  refine ev_istore (pc := 85) dX10_worthOf_85 (lnl_n rfl) (Nat.le_of_ble_eq_true rfl) ?_
  refine ev_le (lw := [some (aV ω a0), some (iV a1), some (iV a2), some (iV a3), some (iV a4), some (iV a5), some (iV a6), some (lV v8), none, some (iV v9)]) (lvle_s (lvle_s (lvle_s (lvle_s (lvle_s (lvle_s (lvle_s (lvle_s (lvle_n (lvle_s lvle_z)))))))))) ?_
  refine ev_aload_n (pc := 87) (i := 0) dX10_worthOf_87 rfl rfl ?_
  refine ev_get (pc := 88) (c9 := 10) (k9 := 36) dX10_worthOf_88 fl_Md_74 (by decide) hs1 (gv10_36 hs1) ?_
  refine ev_iload (pc := 91) dX10_worthOf_91 rfl ?_
  obtain ⟨q10a, q10b, q10c, hL⟩ := cX_un hL
  refine ev_lald (pc := 93) dX10_worthOf_93 q10a q10b q10c ?_
  refine ev_lload (pc := 94) dX10_worthOf_94 rfl ?_
  refine ev_lcmp (pc := 96) dX10_worthOf_96 ?_
  refine ev_if_ne (pc := 97) (tgt := 108) dX10_worthOf_97 rfl hL rfl (fun hL => ?_) (fun hL => ?_)
  · refine ev_aload_n (pc := 100) (i := 0) dX10_worthOf_100 rfl rfl ?_
    refine ev_get (pc := 101) (c9 := 10) (k9 := 37) dX10_worthOf_101 fl_Md_78 (by decide) hs1 (gv10_37 hs1) ?_
    refine ev_iload (pc := 104) dX10_worthOf_104 rfl ?_
    obtain ⟨q11a, q11b, q11c, hL⟩ := cX_un hL
    refine ev_iald (pc := 106) dX10_worthOf_106 q11a q11b q11c ?_
    exact evB_iret (pc := 107) dX10_worthOf_107 rfl hL
  · refine ev_aload_n (pc := 108) (i := 0) dX10_worthOf_108 rfl rfl ?_
    refine ev_get (pc := 109) (c9 := 10) (k9 := 4) dX10_worthOf_109 fl_Md_20 (by decide) hs1 (gv10_4 hs1) ?_
    refine ev_bipush (pc := 112) dX10_worthOf_112 (by decide) ?_
    refine ev_iload_n (pc := 114) (i := 1) dX10_worthOf_114 rfl rfl ?_
    obtain ⟨q12a, q12d, q12b, q12c, hL⟩ := cY_un hL
    refine ev_iast (pc := 115) dX10_worthOf_115 q12a q12d q12b q12c ?_
    refine ev_puG hL (fun h13 hL => ?_)
    refine ev_aload_n (pc := 116) (i := 0) dX10_worthOf_116 rfl rfl ?_
    refine ev_get (pc := 117) (c9 := 10) (k9 := 4) dX10_worthOf_117 fl_Md_20 (by decide) hs1 (gv10_4 hs1) ?_
    refine ev_bipush (pc := 120) dX10_worthOf_120 (by decide) ?_
    refine ev_iload_n (pc := 122) (i := 2) dX10_worthOf_122 rfl rfl ?_
    obtain ⟨q14a, q14d, q14b, q14c, hL⟩ := cY_un hL
    refine ev_iast (pc := 123) dX10_worthOf_123 q14a q14d q14b q14c ?_
    refine ev_puG hL (fun h15 hL => ?_)
    refine ev_aload_n (pc := 124) (i := 0) dX10_worthOf_124 rfl rfl ?_
    refine ev_get (pc := 125) (c9 := 10) (k9 := 4) dX10_worthOf_125 fl_Md_20 (by decide) hs1 (gv10_4 hs1) ?_
    refine ev_bipush (pc := 128) dX10_worthOf_128 (by decide) ?_
    refine ev_iload_n (pc := 130) (i := 3) dX10_worthOf_130 rfl rfl ?_
    obtain ⟨q16a, q16d, q16b, q16c, hL⟩ := cY_un hL
    refine ev_iast (pc := 131) dX10_worthOf_131 q16a q16d q16b q16c ?_
    refine ev_puG hL (fun h17 hL => ?_)
    refine ev_aload_n (pc := 132) (i := 0) dX10_worthOf_132 rfl rfl ?_
    refine ev_get (pc := 133) (c9 := 10) (k9 := 4) dX10_worthOf_133 fl_Md_20 (by decide) hs1 (gv10_4 hs1) ?_
    refine ev_bipush (pc := 136) dX10_worthOf_136 (by decide) ?_
    refine ev_iload (pc := 138) dX10_worthOf_138 rfl ?_
    obtain ⟨q18a, q18d, q18b, q18c, hL⟩ := cY_un hL
    refine ev_iast (pc := 140) dX10_worthOf_140 q18a q18d q18b q18c ?_
    refine ev_puG hL (fun h19 hL => ?_)
    refine ev_aload_n (pc := 141) (i := 0) dX10_worthOf_141 rfl rfl ?_
    refine ev_get (pc := 142) (c9 := 10) (k9 := 4) dX10_worthOf_142 fl_Md_20 (by decide) hs1 (gv10_4 hs1) ?_
    refine ev_bipush (pc := 145) dX10_worthOf_145 (by decide) ?_
    refine ev_iload (pc := 147) dX10_worthOf_147 rfl ?_
    obtain ⟨q20a, q20d, q20b, q20c, hL⟩ := cY_un hL
    refine ev_iast (pc := 149) dX10_worthOf_149 q20a q20d q20b q20c ?_
    refine ev_puG hL (fun h21 hL => ?_)
    refine ev_aload_n (pc := 150) (i := 0) dX10_worthOf_150 rfl rfl ?_
    refine ev_get (pc := 151) (c9 := 10) (k9 := 4) dX10_worthOf_151 fl_Md_20 (by decide) hs1 (gv10_4 hs1) ?_
    refine ev_bipush (pc := 154) dX10_worthOf_154 (by decide) ?_
    refine ev_iload (pc := 156) dX10_worthOf_156 rfl ?_
    obtain ⟨q22a, q22d, q22b, q22c, hL⟩ := cY_un hL
    refine ev_iast (pc := 158) dX10_worthOf_158 q22a q22d q22b q22c ?_
    refine ev_puG hL (fun h23 hL => ?_)
    refine ev_aload_n (pc := 159) (i := 0) dX10_worthOf_159 rfl rfl ?_
    refine ev_aload_n (pc := 160) (i := 0) dX10_worthOf_160 rfl rfl ?_
    refine ev_get (pc := 161) (c9 := 10) (k9 := 2) dX10_worthOf_161 fl_Md_13 (by decide) hs1 (gv10_2 hs1) ?_
    refine ev_sipush (pc := 164) dX10_worthOf_164 (by decide) ?_
    refine ev_aload_n (pc := 167) (i := 0) dX10_worthOf_167 rfl rfl ?_
    refine ev_get (pc := 168) (c9 := 10) (k9 := 34) dX10_worthOf_168 fl_Md_67 (by decide) hs1 gv10_34 ?_
    refine ev_imul (pc := 171) dX10_worthOf_171 ?_
    refine ev_aload_n (pc := 172) (i := 0) dX10_worthOf_172 rfl rfl ?_
    refine ev_get (pc := 173) (c9 := 10) (k9 := 3) dX10_worthOf_173 fl_Md_16 (by decide) hs1 (gv10_3 hs1) ?_
    refine ev_aload_n (pc := 176) (i := 0) dX10_worthOf_176 rfl rfl ?_
    refine ev_get (pc := 177) (c9 := 10) (k9 := 34) dX10_worthOf_177 fl_Md_67 (by decide) hs1 gv10_34 ?_
    obtain ⟨q24a, q24b, q24c, hL⟩ := cX_un hL
    refine ev_iald (pc := 180) dX10_worthOf_180 q24a q24b q24c ?_
    obtain ⟨r25, h26, hc27, hL⟩ := cl_un hL
    refine evB_callV_V (pc := 181) (M_Md_goThrough hc27) dX10_worthOf_181 mt_Md_goThrough st_Md_goThrough ml_Md_280 hs1 (by decide) ⟨_, rfl, rfl⟩ (Nat.le_of_ble_eq_true rfl) rfl rfl (Nat.le_trans sm_z (by decide)) ?_
    refine ev_aload_n (pc := 184) (i := 0) dX10_worthOf_184 rfl rfl ?_
    refine ev_get (pc := 185) (c9 := 10) (k9 := 36) dX10_worthOf_185 fl_Md_74 (by decide) hs1 (gv10_36 hs1) ?_
    refine ev_iload (pc := 188) dX10_worthOf_188 rfl ?_
    refine ev_lload (pc := 190) dX10_worthOf_190 rfl ?_
    obtain ⟨q28a, q28d, q28b, q28c, hL⟩ := cY_un hL
    refine ev_last (pc := 192) dX10_worthOf_192 q28a q28d q28b q28c ?_
    refine ev_puG hL (fun h29 hL => ?_)
    refine ev_aload_n (pc := 193) (i := 0) dX10_worthOf_193 rfl rfl ?_
    refine ev_get (pc := 194) (c9 := 10) (k9 := 37) dX10_worthOf_194 fl_Md_78 (by decide) hs1 (gv10_37 hs1) ?_
    refine ev_iload (pc := 197) dX10_worthOf_197 rfl ?_
    refine ev_aload_n (pc := 199) (i := 0) dX10_worthOf_199 rfl rfl ?_
    refine ev_get (pc := 200) (c9 := 10) (k9 := 14) dX10_worthOf_200 fl_Md_204 (by decide) hs1 gv10_14 ?_
    obtain ⟨q30a, q30d, q30b, q30c, hL⟩ := cY_un hL
    refine ev_iast (pc := 203) dX10_worthOf_203 q30a q30d q30b q30c ?_
    refine ev_puG hL (fun h31 hL => ?_)
    refine ev_aload_n (pc := 204) (i := 0) dX10_worthOf_204 rfl rfl ?_
    refine ev_get (pc := 205) (c9 := 10) (k9 := 14) dX10_worthOf_205 fl_Md_204 (by decide) hs1 gv10_14 ?_
    exact evB_iret (pc := 208) dX10_worthOf_208 rfl hL
set_option maxHeartbeats 1000000 in
set_option maxRecDepth 100000 in
theorem KMd_evenings_b34 {ω : Wd} {z : Nat → Prop}  {h h' : Hp} {x0 x7 r : Int}  (hL : Md_evenings_b34 h x0 x7 = some (r, h')) : EvB ω N_Md_evenings 1303 (QB (some (iV r)) z h') z h 34 [some (aV ω x0), none, none, none, none, none, none, some (iV x7)] [] := by
  unfold Md_evenings_b34 at hL
  refine ev_iconst (pc := 34) dX10_evenings_34 ?_
  refine ev_aload_n (pc := 35) (i := 0) dX10_evenings_35 rfl rfl ?_
  obtain ⟨hs3, hL⟩ := cC_un hL
  refine ev_get (pc := 36) (c9 := 10) (k9 := 18) dX10_evenings_36 fl_Md_37 (by decide) hs3 (gv10_18 hs3) ?_
  refine ev_iconst (pc := 39) dX10_evenings_39 ?_
  obtain ⟨q4a, q4b, q4c, hL⟩ := cX_un hL
  refine ev_iald (pc := 40) dX10_evenings_40 q4a q4b q4c ?_
  refine ev_iload (pc := 41) dX10_evenings_41 rfl ?_
  refine ev_min (pc := 43) dX10_evenings_43 wm_Md_316 w_s_min w_i_Math w_k_min (Nat.le_trans (sm_1 (cat_iV _) sm_z) (by decide)) (Nat.le_of_ble_eq_true rfl) (Nat.le_refl _) (Nat.le_refl _) ?_
  refine ev_max (pc := 46) dX10_evenings_46 wm_Md_332 w_s_max w_i_Math w_k_max (Nat.le_trans sm_z (by decide)) (Nat.le_of_ble_eq_true rfl) (Nat.le_refl _) (Nat.le_refl _) ?_
  exact evB_iret (pc := 49) dX10_evenings_49 rfl hL
set_option maxHeartbeats 1000000 in
set_option maxRecDepth 100000 in
theorem M_Md_evenings {ω : Wd} {z : Nat → Prop} {h h' : Hp} {a0 a1 a2 a3 a4 a5 a6 r : Int}  (hL : Md_evenings h a0 a1 a2 a3 a4 a5 a6 = some (r, h')) : CtB ω N_Md_evenings 1303 [aV ω a0, iV a1, iV a2, iV a3, iV a4, iV a5, iV a6] z h (some (iV r)) h' := by
  unfold Md_evenings at hL
  refine Ct_of (lv := [some (aV ω a0), some (iV a1), some (iV a2), some (iV a3), some (iV a4), some (iV a5), some (iV a6), none]) (by decide) (Nat.le_trans (sl_1 (cat_aV _ _) (sl_1 (cat_iV _) (sl_1 (cat_iV _) (sl_1 (cat_iV _) (sl_1 (cat_iV _) (sl_1 (cat_iV _) (sl_1 (cat_iV _) sl_z))))))) (Nat.le_of_ble_eq_true rfl)) (la_1 (cat_aV _ _) (la_1 (cat_iV _) (la_1 (cat_iV _) (la_1 (cat_iV _) (la_1 (cat_iV _) (la_1 (cat_iV _) (la_1 (cat_iV _) (la_n la_z)))))))) ?_
  refine ev_iconst (pc := 0) dX10_evenings_0 ?_
  refine ev_iload_n (pc := 1) (i := 1) dX10_evenings_1 rfl rfl ?_
  refine ev_imul (pc := 2) dX10_evenings_2 ?_
  refine ev_iload_n (pc := 3) (i := 2) dX10_evenings_3 rfl rfl ?_
  refine ev_iadd (pc := 4) dX10_evenings_4 ?_
  refine ev_iload_n (pc := 5) (i := 3) dX10_evenings_5 rfl rfl ?_
  refine ev_iconst (pc := 6) dX10_evenings_6 ?_
  refine ev_idiv (pc := 7) dX10_evenings_7 hL (fun hL => ?_)
  refine ev_isub (pc := 8) dX10_evenings_8 ?_
  refine ev_bdI hL (fun v1 hL => ?_)
  refine ev_istore (pc := 9) dX10_evenings_9 (lnl_v rfl rfl) (Nat.le_of_ble_eq_true rfl) ?_
  refine ev_aload_n (pc := 11) (i := 0) dX10_evenings_11 rfl rfl ?_
  obtain ⟨hs2, hL⟩ := cC_un hL
  refine ev_get (pc := 12) (c9 := 10) (k9 := 34) dX10_evenings_12 fl_Md_67 (by decide) hs2 gv10_34 ?_
  refine ev_iconst (pc := 15) dX10_evenings_15 ?_
  refine ev_icmp_eq (pc := 16) (tgt := 34) dX10_evenings_16 rfl hL rfl (fun hL => ?_) (fun hL => ?_)
  · exact ev_le (lvle_s (lvle_n (lvle_n (lvle_n (lvle_n (lvle_n (lvle_n (lvle_s lvle_z)))))))) (KMd_evenings_b34  hL)
  · refine ev_aload_n (pc := 19) (i := 0) dX10_evenings_19 rfl rfl ?_
    refine ev_iload_n (pc := 20) (i := 1) dX10_evenings_20 rfl rfl ?_
    refine ev_iload_n (pc := 21) (i := 2) dX10_evenings_21 rfl rfl ?_
    refine ev_iload_n (pc := 22) (i := 3) dX10_evenings_22 rfl rfl ?_
    refine ev_iload (pc := 23) dX10_evenings_23 rfl ?_
    refine ev_iload (pc := 25) dX10_evenings_25 rfl ?_
    refine ev_iload (pc := 27) dX10_evenings_27 rfl ?_
    obtain ⟨r5, h6, hc7, hL⟩ := cl_un hL
    refine evB_callV_I (pc := 29) (M_Md_worthOf hc7) dX10_evenings_29 mt_Md_worthOf st_Md_worthOf ml_Md_328 hs2 (by decide) ⟨_, rfl, rfl⟩ (Nat.le_of_ble_eq_true rfl) rfl rfl (Nat.le_trans sm_z (by decide)) ?_
    refine ev_istore (pc := 32) dX10_evenings_32 (lnl_v rfl rfl) (Nat.le_of_ble_eq_true rfl) ?_
    exact ev_le (lvle_s (lvle_n (lvle_n (lvle_n (lvle_n (lvle_n (lvle_n (lvle_s lvle_z)))))))) (KMd_evenings_b34  hL)
set_option maxHeartbeats 1000000 in
set_option maxRecDepth 100000 in
theorem M_Md_worthTold {ω : Wd} {z : Nat → Prop} {h h' : Hp} {a0 a1 a2 r : Int}  (hL : Md_worthTold h a0 a1 a2 = some (r, h')) : CtB ω N_Md_worthTold 1304 [aV ω a0, iV a1, iV a2] z h (some (iV r)) h' := by
  unfold Md_worthTold at hL
  refine Ct_of (lv := [some (aV ω a0), some (iV a1), some (iV a2), none, none]) (by decide) (Nat.le_trans (sl_1 (cat_aV _ _) (sl_1 (cat_iV _) (sl_1 (cat_iV _) sl_z))) (Nat.le_of_ble_eq_true rfl)) (la_1 (cat_aV _ _) (la_1 (cat_iV _) (la_1 (cat_iV _) (la_n (la_n la_z))))) ?_
  refine ev_aload_n (pc := 0) (i := 0) dX10_worthTold_0 rfl rfl ?_
  obtain ⟨hs1, hL⟩ := cC_un hL
  refine ev_get (pc := 1) (c9 := 10) (k9 := 22) dX10_worthTold_1 fl_Md_49 (by decide) hs1 (gv10_22 hs1) ?_
  refine ev_iconst (pc := 4) dX10_worthTold_4 ?_
  refine ev_iload_n (pc := 5) (i := 1) dX10_worthTold_5 rfl rfl ?_
  refine ev_imul (pc := 6) dX10_worthTold_6 ?_
  obtain ⟨q2a, q2b, q2c, hL⟩ := cX_un hL
  refine ev_iald (pc := 7) dX10_worthTold_7 q2a q2b q2c ?_
  refine ev_bdI hL (fun v3 hL => ?_)
  refine ev_istore_n (pc := 8) (i := 3) dX10_worthTold_8 rfl (lnl_v rfl rfl) (Nat.le_of_ble_eq_true rfl) ?_
  refine ev_aload_n (pc := 9) (i := 0) dX10_worthTold_9 rfl rfl ?_
  refine ev_get (pc := 10) (c9 := 10) (k9 := 22) dX10_worthTold_10 fl_Md_49 (by decide) hs1 (gv10_22 hs1) ?_
  refine ev_iconst (pc := 13) dX10_worthTold_13 ?_
  refine ev_iload_n (pc := 14) (i := 1) dX10_worthTold_14 rfl rfl ?_
  refine ev_imul (pc := 15) dX10_worthTold_15 ?_
  refine ev_iconst (pc := 16) dX10_worthTold_16 ?_
  refine ev_iadd (pc := 17) dX10_worthTold_17 ?_
  obtain ⟨q4a, q4b, q4c, hL⟩ := cX_un hL
  refine ev_iald (pc := 18) dX10_worthTold_18 q4a q4b q4c ?_
  refine ev_bdI hL (fun v5 hL => ?_)
  refine ev_istore (pc := 19) dX10_worthTold_19 (lnl_v rfl rfl) (Nat.le_of_ble_eq_true rfl) ?_
  refine ev_aload_n (pc := 21) (i := 0) dX10_worthTold_21 rfl rfl ?_
  refine ev_iload_n (pc := 22) (i := 2) dX10_worthTold_22 rfl rfl ?_
  refine ev_aload_n (pc := 23) (i := 0) dX10_worthTold_23 rfl rfl ?_
  refine ev_get (pc := 24) (c9 := 10) (k9 := 20) dX10_worthTold_24 fl_Md_43 (by decide) hs1 (gv10_20 hs1) ?_
  refine ev_iconst (pc := 27) dX10_worthTold_27 ?_
  refine ev_iload_n (pc := 28) (i := 3) dX10_worthTold_28 rfl rfl ?_
  refine ev_imul (pc := 29) dX10_worthTold_29 ?_
  refine ev_iconst (pc := 30) dX10_worthTold_30 ?_
  refine ev_iadd (pc := 31) dX10_worthTold_31 ?_
  obtain ⟨q6a, q6b, q6c, hL⟩ := cX_un hL
  refine ev_iald (pc := 32) dX10_worthTold_32 q6a q6b q6c ?_
  refine ev_aload_n (pc := 33) (i := 0) dX10_worthTold_33 rfl rfl ?_
  refine ev_get (pc := 34) (c9 := 10) (k9 := 20) dX10_worthTold_34 fl_Md_43 (by decide) hs1 (gv10_20 hs1) ?_
  refine ev_iconst (pc := 37) dX10_worthTold_37 ?_
  refine ev_iload (pc := 38) dX10_worthTold_38 rfl ?_
  refine ev_imul (pc := 40) dX10_worthTold_40 ?_
  obtain ⟨q7a, q7b, q7c, hL⟩ := cX_un hL
  refine ev_iald (pc := 41) dX10_worthTold_41 q7a q7b q7c ?_
  refine ev_aload_n (pc := 42) (i := 0) dX10_worthTold_42 rfl rfl ?_
  refine ev_get (pc := 43) (c9 := 10) (k9 := 20) dX10_worthTold_43 fl_Md_43 (by decide) hs1 (gv10_20 hs1) ?_
  refine ev_iconst (pc := 46) dX10_worthTold_46 ?_
  refine ev_iload (pc := 47) dX10_worthTold_47 rfl ?_
  refine ev_imul (pc := 49) dX10_worthTold_49 ?_
  refine ev_iconst (pc := 50) dX10_worthTold_50 ?_
  refine ev_iadd (pc := 51) dX10_worthTold_51 ?_
  obtain ⟨q8a, q8b, q8c, hL⟩ := cX_un hL
  refine ev_iald (pc := 52) dX10_worthTold_52 q8a q8b q8c ?_
  refine ev_iconst (pc := 53) dX10_worthTold_53 ?_
  refine ev_iconst (pc := 54) dX10_worthTold_54 ?_
  obtain ⟨r9, h10, hc11, hL⟩ := cl_un hL
  refine evB_callV_I (pc := 55) (M_Md_evenings hc11) dX10_worthTold_55 mt_Md_evenings st_Md_evenings ml_Md_341 hs1 (by decide) ⟨_, rfl, rfl⟩ (Nat.le_of_ble_eq_true rfl) rfl rfl (Nat.le_trans sm_z (by decide)) ?_
  exact evB_iret (pc := 58) dX10_worthTold_58 rfl hL
set_option maxHeartbeats 1000000 in
set_option maxRecDepth 100000 in
theorem KMd_isGrave_b65 {ω : Wd} {z : Nat → Prop} {k2 : Hp × Int × Int × Int × Int → Option (Int × Hp)} {h h' : Hp} {x0 x1 x2 x3 y0 y1 r : Int} (hk2 : ∀ s o, k2 s = some o → EvB ω N_Md_isGrave 1305 (QB (some (iV o.1)) z o.2) z s.1 2 [some (aV ω s.2.1), some (iV s.2.2.1), some (iV s.2.2.2.1), some (iV s.2.2.2.2)] []) (hL : Md_isGrave_b65 k2 h x0 x1 x2 x3 y0 y1 = some (r, h')) : EvB ω N_Md_isGrave 1305 (QB (some (iV r)) z h') z h 65 [some (aV ω x0), some (iV x1), some (iV x2), some (iV x3)] [iV y1, iV y0] := by
  unfold Md_isGrave_b65 at hL
  refine ev_icmp_eq (pc := 65) (tgt := 70) dX10_isGrave_65 rfl hL rfl (fun hL => ?_) (fun hL => ?_)
  · refine ev_iinc (pc := 70) dX10_isGrave_70 rfl (lnl_v rfl rfl) (Nat.le_of_ble_eq_true rfl) ?_
    refine ev_goto (pc := 73) (tgt := 2) dX10_isGrave_73 rfl ?_
    exact ev_le (lvle_s (lvle_s (lvle_s (lvle_s lvle_z)))) (hk2 _ _ hL)
  · refine ev_iconst (pc := 68) dX10_isGrave_68 ?_
    exact evB_zret (pc := 69) dX10_isGrave_69 rfl rfl hL
set_option maxHeartbeats 1000000 in
set_option maxRecDepth 100000 in
theorem KMd_isGrave_b46 {ω : Wd} {z : Nat → Prop} {k2 : Hp × Int × Int × Int × Int → Option (Int × Hp)} {h h' : Hp} {x0 x1 x2 x3 y0 r : Int} (hk2 : ∀ s o, k2 s = some o → EvB ω N_Md_isGrave 1305 (QB (some (iV o.1)) z o.2) z s.1 2 [some (aV ω s.2.1), some (iV s.2.2.1), some (iV s.2.2.2.1), some (iV s.2.2.2.2)] []) (hL : Md_isGrave_b46 k2 h x0 x1 x2 x3 y0 = some (r, h')) : EvB ω N_Md_isGrave 1305 (QB (some (iV r)) z h') z h 46 [some (aV ω x0), some (iV x1), some (iV x2), some (iV x3)] [iV y0] := by
  unfold Md_isGrave_b46 at hL
  refine ev_aload_n (pc := 46) (i := 0) dX10_isGrave_46 rfl rfl ?_
  obtain ⟨hs7, hL⟩ := cC_un hL
  refine ev_get (pc := 47) (c9 := 10) (k9 := 49) dX10_isGrave_47 fl_Md_87 (by decide) hs7 (gv10_49 hs7) ?_
  refine ev_iconst (pc := 50) dX10_isGrave_50 ?_
  refine ev_iload_n (pc := 51) (i := 3) dX10_isGrave_51 rfl rfl ?_
  refine ev_imul (pc := 52) dX10_isGrave_52 ?_
  refine ev_iconst (pc := 53) dX10_isGrave_53 ?_
  refine ev_iadd (pc := 54) dX10_isGrave_54 ?_
  obtain ⟨q8a, q8b, q8c, hL⟩ := cX_un hL
  refine ev_iald (pc := 55) dX10_isGrave_55 q8a q8b q8c ?_
  refine ev_iconst (pc := 56) dX10_isGrave_56 ?_
  refine ev_icmp_ne (pc := 57) (tgt := 64) dX10_isGrave_57 rfl hL rfl (fun hL => ?_) (fun hL => ?_)
  · refine ev_iconst (pc := 60) dX10_isGrave_60 ?_
    refine ev_goto (pc := 61) (tgt := 65) dX10_isGrave_61 rfl ?_
    exact ev_le (lvle_s (lvle_s (lvle_s (lvle_s lvle_z)))) (KMd_isGrave_b65 hk2 hL)
  · refine ev_iconst (pc := 64) dX10_isGrave_64 ?_
    exact ev_le (lvle_s (lvle_s (lvle_s (lvle_s lvle_z)))) (KMd_isGrave_b65 hk2 hL)
set_option maxHeartbeats 1000000 in
set_option maxRecDepth 100000 in
theorem KMd_isGrave_b2_body {ω : Wd} {z : Nat → Prop}  {k2 : Hp × Int × Int × Int × Int → Option (Int × Hp)} {h h' : Hp} {x0 x1 x2 x3 r : Int}  (hk2 : ∀ s o, k2 s = some o → EvB ω N_Md_isGrave 1305 (QB (some (iV o.1)) z o.2) z s.1 2 [some (aV ω s.2.1), some (iV s.2.2.1), some (iV s.2.2.2.1), some (iV s.2.2.2.2)] []) (hL : Md_isGrave_b2_body  k2 h x0 x1 x2 x3 = some (r, h')) : EvB ω N_Md_isGrave 1305 (QB (some (iV r)) z h') z h 2 [some (aV ω x0), some (iV x1), some (iV x2), some (iV x3)] [] := by
  unfold Md_isGrave_b2_body at hL
  refine ev_iload_n (pc := 2) (i := 3) dX10_isGrave_2 rfl rfl ?_
  refine ev_aload_n (pc := 3) (i := 0) dX10_isGrave_3 rfl rfl ?_
  obtain ⟨hs1, hL⟩ := cC_un hL
  refine ev_get (pc := 4) (c9 := 10) (k9 := 50) dX10_isGrave_4 fl_Md_300 (by decide) hs1 gv10_50 ?_
  refine ev_icmp_ge (pc := 7) (tgt := 76) dX10_isGrave_7 rfl hL rfl (fun hL => ?_) (fun hL => ?_)
  · refine ev_aload_n (pc := 10) (i := 0) dX10_isGrave_10 rfl rfl ?_
    refine ev_get (pc := 11) (c9 := 10) (k9 := 49) dX10_isGrave_11 fl_Md_87 (by decide) hs1 (gv10_49 hs1) ?_
    refine ev_iconst (pc := 14) dX10_isGrave_14 ?_
    refine ev_iload_n (pc := 15) (i := 3) dX10_isGrave_15 rfl rfl ?_
    refine ev_imul (pc := 16) dX10_isGrave_16 ?_
    obtain ⟨q2a, q2b, q2c, hL⟩ := cX_un hL
    refine ev_iald (pc := 17) dX10_isGrave_17 q2a q2b q2c ?_
    refine ev_iload_n (pc := 18) (i := 1) dX10_isGrave_18 rfl rfl ?_
    refine ev_icmp_ne (pc := 19) (tgt := 70) dX10_isGrave_19 rfl hL rfl (fun hL => ?_) (fun hL => ?_)
    · refine ev_aload_n (pc := 22) (i := 0) dX10_isGrave_22 rfl rfl ?_
      refine ev_iload_n (pc := 23) (i := 1) dX10_isGrave_23 rfl rfl ?_
      refine ev_iload_n (pc := 24) (i := 2) dX10_isGrave_24 rfl rfl ?_
      obtain ⟨r3, h4, hc5, hL⟩ := cl_un hL
      refine evB_callV_I (pc := 25) (M_Md_worthTold hc5) dX10_isGrave_25 mt_Md_worthTold st_Md_worthTold ml_Md_478 hs1 (by decide) ⟨_, rfl, rfl⟩ (Nat.le_of_ble_eq_true rfl) rfl rfl (Nat.le_trans sm_z (by decide)) ?_
      refine ev_aload_n (pc := 28) (i := 0) dX10_isGrave_28 rfl rfl ?_
      refine ev_get (pc := 29) (c9 := 10) (k9 := 49) dX10_isGrave_29 fl_Md_87 (by decide) hs1 (gv10_49 hs1) ?_
      refine ev_iconst (pc := 32) dX10_isGrave_32 ?_
      refine ev_iload_n (pc := 33) (i := 3) dX10_isGrave_33 rfl rfl ?_
      refine ev_imul (pc := 34) dX10_isGrave_34 ?_
      refine ev_iconst (pc := 35) dX10_isGrave_35 ?_
      refine ev_iadd (pc := 36) dX10_isGrave_36 ?_
      obtain ⟨q6a, q6b, q6c, hL⟩ := cX_un hL
      refine ev_iald (pc := 37) dX10_isGrave_37 q6a q6b q6c ?_
      refine ev_icmp_lt (pc := 38) (tgt := 45) dX10_isGrave_38 rfl hL rfl (fun hL => ?_) (fun hL => ?_)
      · refine ev_iconst (pc := 45) dX10_isGrave_45 ?_
        exact ev_le (lvle_s (lvle_s (lvle_s (lvle_s lvle_z)))) (KMd_isGrave_b46 hk2 hL)
      · refine ev_iconst (pc := 41) dX10_isGrave_41 ?_
        refine ev_goto (pc := 42) (tgt := 46) dX10_isGrave_42 rfl ?_
        exact ev_le (lvle_s (lvle_s (lvle_s (lvle_s lvle_z)))) (KMd_isGrave_b46 hk2 hL)
    · refine ev_iinc (pc := 70) dX10_isGrave_70 rfl (lnl_v rfl rfl) (Nat.le_of_ble_eq_true rfl) ?_
      refine ev_goto (pc := 73) (tgt := 2) dX10_isGrave_73 rfl ?_
      exact ev_le (lvle_s (lvle_s (lvle_s (lvle_s lvle_z)))) (hk2 _ _ hL)
  · refine ev_iconst (pc := 76) dX10_isGrave_76 ?_
    exact evB_zret (pc := 77) dX10_isGrave_77 rfl rfl hL
set_option maxHeartbeats 1000000 in
set_option maxRecDepth 100000 in
theorem KMd_isGrave_b2 {ω : Wd} {z : Nat → Prop}  {h h' : Hp} {x0 x1 x2 x3 r : Int}  (hL : Md_isGrave_b2 h x0 x1 x2 x3 = some (r, h')) : EvB ω N_Md_isGrave 1305 (QB (some (iV r)) z h') z h 2 [some (aV ω x0), some (iV x1), some (iV x2), some (iV x3)] [] := by
  unfold Md_isGrave_b2 at hL
  refine itr_link (P := fun (s : Hp × Int × Int × Int × Int) (o : Int × Hp) => EvB ω N_Md_isGrave 1305 (QB (some (iV o.1)) z o.2) z s.1 2 [some (aV ω s.2.1), some (iV s.2.2.1), some (iV s.2.2.2.1), some (iV s.2.2.2.2)] []) ?_ _ _ _ hL
  intro k hk s o h9
  have h10 := KMd_isGrave_b2_body (ω := ω) (z := z) (k2 := k) (h := s.1) (x0 := s.2.1) (x1 := s.2.2.1) (x2 := s.2.2.2.1) (x3 := s.2.2.2.2) (r := o.1) (h' := o.2) 
  exact h10 hk h9
set_option maxHeartbeats 1000000 in
set_option maxRecDepth 100000 in
theorem M_Md_isGrave {ω : Wd} {z : Nat → Prop} {h h' : Hp} {a0 a1 a2 r : Int}  (hL : Md_isGrave h a0 a1 a2 = some (r, h')) : CtB ω N_Md_isGrave 1305 [aV ω a0, iV a1, iV a2] z h (some (iV r)) h' := by
  unfold Md_isGrave at hL
  refine Ct_of (lv := [some (aV ω a0), some (iV a1), some (iV a2), none]) (by decide) (Nat.le_trans (sl_1 (cat_aV _ _) (sl_1 (cat_iV _) (sl_1 (cat_iV _) sl_z))) (Nat.le_of_ble_eq_true rfl)) (la_1 (cat_aV _ _) (la_1 (cat_iV _) (la_1 (cat_iV _) (la_n la_z)))) ?_
  refine ev_iconst (pc := 0) dX10_isGrave_0 ?_
  refine ev_istore_n (pc := 1) (i := 3) dX10_isGrave_1 rfl (lnl_v rfl rfl) (Nat.le_of_ble_eq_true rfl) ?_
  exact ev_le (lvle_s (lvle_s (lvle_s (lvle_s lvle_z)))) (KMd_isGrave_b2  hL)
set_option maxHeartbeats 1000000 in
set_option maxRecDepth 100000 in
theorem M_Md_isWrong {ω : Wd} {z : Nat → Prop} {h h' : Hp} {a0 a1 r : Int}  (hL : Md_isWrong h a0 a1 = some (r, h')) : CtB ω N_Md_isWrong 1 [aV ω a0, iV a1] z h (some (iV r)) h' := by
  unfold Md_isWrong at hL
  refine Ct_of (lv := [some (aV ω a0), some (iV a1)]) (by decide) (Nat.le_trans (sl_1 (cat_aV _ _) (sl_1 (cat_iV _) sl_z)) (Nat.le_of_ble_eq_true rfl)) (la_1 (cat_aV _ _) (la_1 (cat_iV _) la_z)) ?_
  refine ev_iload_n (pc := 0) (i := 1) dX10_isWrong_0 rfl rfl ?_
  refine ev_if_lt (pc := 1) (tgt := 16) dX10_isWrong_1 rfl hL rfl (fun hL => ?_) (fun hL => ?_)
  · refine ev_iconst (pc := 16) dX10_isWrong_16 ?_
    exact evB_zret (pc := 17) dX10_isWrong_17 rfl rfl hL
  · refine ev_iload_n (pc := 4) (i := 1) dX10_isWrong_4 rfl rfl ?_
    refine ev_aload_n (pc := 5) (i := 0) dX10_isWrong_5 rfl rfl ?_
    obtain ⟨hs1, hL⟩ := cC_un hL
    refine ev_get (pc := 6) (c9 := 10) (k9 := 27) dX10_isWrong_6 fl_Md_297 (by decide) hs1 gv10_27 ?_
    refine ev_icmp_ge (pc := 9) (tgt := 16) dX10_isWrong_9 rfl hL rfl (fun hL => ?_) (fun hL => ?_)
    · refine ev_iconst (pc := 12) dX10_isWrong_12 ?_
      refine ev_goto (pc := 13) (tgt := 17) dX10_isWrong_13 rfl ?_
      exact evB_zret (pc := 17) dX10_isWrong_17 rfl rfl hL
    · refine ev_iconst (pc := 16) dX10_isWrong_16 ?_
      exact evB_zret (pc := 17) dX10_isWrong_17 rfl rfl hL
set_option maxHeartbeats 1000000 in
set_option maxRecDepth 100000 in
theorem KMd_ask_b38_body {ω : Wd} {z : Nat → Prop} {k22 : Hp × Int × Int × Int × Int × Int → Option (Int × Hp)} {k38 : Hp × Int × Int × Int × Int × Int × Int × Int × Int → Option (Int × Hp)} {h h' : Hp} {x0 x1 x2 x3 x4 x5 x6 x7 r : Int} (hk22 : ∀ s o, k22 s = some o → EvB ω N_Md_ask 1306 (QB (some (iV o.1)) z o.2) z s.1 22 [some (aV ω s.2.1), some (iV s.2.2.1), some (iV s.2.2.2.1), some (iV s.2.2.2.2.1), some (iV s.2.2.2.2.2), none, none, none] []) (hk38 : ∀ s o, k38 s = some o → EvB ω N_Md_ask 1306 (QB (some (iV o.1)) z o.2) z s.1 38 [some (aV ω s.2.1), some (iV s.2.2.1), some (iV s.2.2.2.1), some (iV s.2.2.2.2.1), some (iV s.2.2.2.2.2.1), some (iV s.2.2.2.2.2.2.1), some (iV s.2.2.2.2.2.2.2.1), some (iV s.2.2.2.2.2.2.2.2)] []) (hL : Md_ask_b38_body k22 k38 h x0 x1 x2 x3 x4 x5 x6 x7 = some (r, h')) : EvB ω N_Md_ask 1306 (QB (some (iV r)) z h') z h 38 [some (aV ω x0), some (iV x1), some (iV x2), some (iV x3), some (iV x4), some (iV x5), some (iV x6), some (iV x7)] [] := by
  unfold Md_ask_b38_body at hL
  refine ev_iload (pc := 38) dX10_ask_38 rfl ?_
  refine ev_bipush (pc := 40) dX10_ask_40 (by decide) ?_
  refine ev_icmp_gt (pc := 42) (tgt := 89) dX10_ask_42 rfl hL rfl (fun hL => ?_) (fun hL => ?_)
  · refine ev_iload (pc := 89) dX10_ask_89 rfl ?_
    refine ev_if_ne (pc := 91) (tgt := 96) dX10_ask_91 rfl hL rfl (fun hL => ?_) (fun hL => ?_)
    · refine ev_iconst (pc := 94) dX10_ask_94 ?_
      exact evB_iret (pc := 95) dX10_ask_95 rfl hL
    · refine ev_iload (pc := 96) dX10_ask_96 rfl ?_
      refine ev_abs (pc := 98) dX10_ask_98 wm_Md_484 w_s_abs w_i_Math w_k_abs (Nat.le_trans sm_z (by decide)) (Nat.le_of_ble_eq_true rfl) (Nat.le_refl _) (Nat.le_refl _) ?_
      refine ev_bdI hL (fun v6 hL => ?_)
      refine ev_istore (pc := 101) dX10_ask_101 (lnl_v rfl rfl) (Nat.le_of_ble_eq_true rfl) ?_
      refine ev_iload_n (pc := 103) (i := 2) dX10_ask_103 rfl rfl ?_
      refine ev_iconst (pc := 104) dX10_ask_104 ?_
      refine ev_icmp_eq (pc := 105) (tgt := 117) dX10_ask_105 rfl hL rfl (fun hL => ?_) (fun hL => ?_)
      · refine ev_iload (pc := 117) dX10_ask_117 rfl ?_
        refine ev_istore_n (pc := 119) (i := 2) dX10_ask_119 rfl (lnl_v rfl rfl) (Nat.le_of_ble_eq_true rfl) ?_
        refine ev_iload (pc := 120) dX10_ask_120 rfl ?_
        refine ev_istore_n (pc := 122) (i := 3) dX10_ask_122 rfl (lnl_v rfl rfl) (Nat.le_of_ble_eq_true rfl) ?_
        refine ev_iinc (pc := 123) dX10_ask_123 rfl (lnl_v rfl rfl) (Nat.le_of_ble_eq_true rfl) ?_
        refine ev_goto (pc := 126) (tgt := 22) dX10_ask_126 rfl ?_
        exact ev_le (lvle_s (lvle_s (lvle_s (lvle_s (lvle_s (lvle_n (lvle_n (lvle_n lvle_z)))))))) (hk22 _ _ hL)
      · refine ev_iload (pc := 108) dX10_ask_108 rfl ?_
        refine ev_iload_n (pc := 110) (i := 3) dX10_ask_110 rfl rfl ?_
        refine ev_icmp_lt (pc := 111) (tgt := 117) dX10_ask_111 rfl hL rfl (fun hL => ?_) (fun hL => ?_)
        · refine ev_iload (pc := 117) dX10_ask_117 rfl ?_
          refine ev_istore_n (pc := 119) (i := 2) dX10_ask_119 rfl (lnl_v rfl rfl) (Nat.le_of_ble_eq_true rfl) ?_
          refine ev_iload (pc := 120) dX10_ask_120 rfl ?_
          refine ev_istore_n (pc := 122) (i := 3) dX10_ask_122 rfl (lnl_v rfl rfl) (Nat.le_of_ble_eq_true rfl) ?_
          refine ev_iinc (pc := 123) dX10_ask_123 rfl (lnl_v rfl rfl) (Nat.le_of_ble_eq_true rfl) ?_
          refine ev_goto (pc := 126) (tgt := 22) dX10_ask_126 rfl ?_
          exact ev_le (lvle_s (lvle_s (lvle_s (lvle_s (lvle_s (lvle_n (lvle_n (lvle_n lvle_z)))))))) (hk22 _ _ hL)
        · refine ev_goto (pc := 114) (tgt := 123) dX10_ask_114 rfl ?_
          refine ev_iinc (pc := 123) dX10_ask_123 rfl (lnl_v rfl rfl) (Nat.le_of_ble_eq_true rfl) ?_
          refine ev_goto (pc := 126) (tgt := 22) dX10_ask_126 rfl ?_
          exact ev_le (lvle_s (lvle_s (lvle_s (lvle_s (lvle_s (lvle_n (lvle_n (lvle_n lvle_z)))))))) (hk22 _ _ hL)
  · refine ev_aload_n (pc := 45) (i := 0) dX10_ask_45 rfl rfl ?_
    refine ev_iload_n (pc := 46) (i := 1) dX10_ask_46 rfl rfl ?_
    refine ev_iload (pc := 47) dX10_ask_47 rfl ?_
    obtain ⟨hs7, hL⟩ := cC_un hL
    obtain ⟨r8, h9, hc10, hL⟩ := cl_un hL
    refine evB_callV_I (pc := 49) (M_Md_isGrave hc10) dX10_ask_49 mt_Md_isGrave st_Md_isGrave ml_Md_481 hs7 (by decide) ⟨_, rfl, rfl⟩ (Nat.le_of_ble_eq_true rfl) rfl rfl (Nat.le_trans sm_z (by decide)) ?_
    refine ev_if_ne (pc := 52) (tgt := 58) dX10_ask_52 rfl hL rfl (fun hL => ?_) (fun hL => ?_)
    · refine ev_goto (pc := 55) (tgt := 83) dX10_ask_55 rfl ?_
      refine ev_iinc (pc := 83) dX10_ask_83 rfl (lnl_v rfl rfl) (Nat.le_of_ble_eq_true rfl) ?_
      refine ev_goto (pc := 86) (tgt := 38) dX10_ask_86 rfl ?_
      exact ev_le (lvle_s (lvle_s (lvle_s (lvle_s (lvle_s (lvle_s (lvle_s (lvle_s lvle_z)))))))) (hk38 _ _ hL)
    · refine ev_iconst (pc := 58) dX10_ask_58 ?_
      refine ev_istore (pc := 59) dX10_ask_59 (lnl_v rfl rfl) (Nat.le_of_ble_eq_true rfl) ?_
      refine ev_iload (pc := 61) dX10_ask_61 rfl ?_
      refine ev_aload_n (pc := 63) (i := 0) dX10_ask_63 rfl rfl ?_
      refine ev_iload_n (pc := 64) (i := 1) dX10_ask_64 rfl rfl ?_
      refine ev_iload (pc := 65) dX10_ask_65 rfl ?_
      obtain ⟨r11, h12, hc13, hL⟩ := cl_un hL
      refine evB_callV_I (pc := 67) (M_Md_worthTold hc13) dX10_ask_67 mt_Md_worthTold st_Md_worthTold ml_Md_478 hs7 (by decide) ⟨_, rfl, rfl⟩ (Nat.le_of_ble_eq_true rfl) rfl rfl (Nat.le_trans (sm_1 (cat_iV _) sm_z) (by decide)) ?_
      refine ev_iload (pc := 70) dX10_ask_70 rfl ?_
      refine ev_icmp_lt (pc := 72) (tgt := 79) dX10_ask_72 rfl hL rfl (fun hL => ?_) (fun hL => ?_)
      · refine ev_iconst (pc := 79) dX10_ask_79 ?_
        refine ev_iadd (pc := 80) dX10_ask_80 ?_
        refine ev_bdI hL (fun v14 hL => ?_)
        refine ev_istore (pc := 81) dX10_ask_81 (lnl_v rfl rfl) (Nat.le_of_ble_eq_true rfl) ?_
        refine ev_iinc (pc := 83) dX10_ask_83 rfl (lnl_v rfl rfl) (Nat.le_of_ble_eq_true rfl) ?_
        refine ev_goto (pc := 86) (tgt := 38) dX10_ask_86 rfl ?_
        exact ev_le (lvle_s (lvle_s (lvle_s (lvle_s (lvle_s (lvle_s (lvle_s (lvle_s lvle_z)))))))) (hk38 _ _ hL)
      · refine ev_iconst (pc := 75) dX10_ask_75 ?_
        refine ev_goto (pc := 76) (tgt := 80) dX10_ask_76 rfl ?_
        refine ev_iadd (pc := 80) dX10_ask_80 ?_
        refine ev_bdI hL (fun v15 hL => ?_)
        refine ev_istore (pc := 81) dX10_ask_81 (lnl_v rfl rfl) (Nat.le_of_ble_eq_true rfl) ?_
        refine ev_iinc (pc := 83) dX10_ask_83 rfl (lnl_v rfl rfl) (Nat.le_of_ble_eq_true rfl) ?_
        refine ev_goto (pc := 86) (tgt := 38) dX10_ask_86 rfl ?_
        exact ev_le (lvle_s (lvle_s (lvle_s (lvle_s (lvle_s (lvle_s (lvle_s (lvle_s lvle_z)))))))) (hk38 _ _ hL)
set_option maxHeartbeats 1000000 in
set_option maxRecDepth 100000 in
theorem KMd_ask_b38 {ω : Wd} {z : Nat → Prop} {k22 : Hp × Int × Int × Int × Int × Int → Option (Int × Hp)} {h h' : Hp} {x0 x1 x2 x3 x4 x5 x6 x7 r : Int} (hk22 : ∀ s o, k22 s = some o → EvB ω N_Md_ask 1306 (QB (some (iV o.1)) z o.2) z s.1 22 [some (aV ω s.2.1), some (iV s.2.2.1), some (iV s.2.2.2.1), some (iV s.2.2.2.2.1), some (iV s.2.2.2.2.2), none, none, none] []) (hL : Md_ask_b38 k22 h x0 x1 x2 x3 x4 x5 x6 x7 = some (r, h')) : EvB ω N_Md_ask 1306 (QB (some (iV r)) z h') z h 38 [some (aV ω x0), some (iV x1), some (iV x2), some (iV x3), some (iV x4), some (iV x5), some (iV x6), some (iV x7)] [] := by
  unfold Md_ask_b38 at hL
  refine itr_link (P := fun (s : Hp × Int × Int × Int × Int × Int × Int × Int × Int) (o : Int × Hp) => EvB ω N_Md_ask 1306 (QB (some (iV o.1)) z o.2) z s.1 38 [some (aV ω s.2.1), some (iV s.2.2.1), some (iV s.2.2.2.1), some (iV s.2.2.2.2.1), some (iV s.2.2.2.2.2.1), some (iV s.2.2.2.2.2.2.1), some (iV s.2.2.2.2.2.2.2.1), some (iV s.2.2.2.2.2.2.2.2)] []) ?_ _ _ _ hL
  intro k hk s o h9
  have h10 := KMd_ask_b38_body (ω := ω) (z := z) (k22 := k22) (k38 := k) (h := s.1) (x0 := s.2.1) (x1 := s.2.2.1) (x2 := s.2.2.2.1) (x3 := s.2.2.2.2.1) (x4 := s.2.2.2.2.2.1) (x5 := s.2.2.2.2.2.2.1) (x6 := s.2.2.2.2.2.2.2.1) (x7 := s.2.2.2.2.2.2.2.2) (r := o.1) (h' := o.2) hk22
  exact h10 hk h9
set_option maxHeartbeats 1000000 in
set_option maxRecDepth 100000 in
theorem KMd_ask_b22_body {ω : Wd} {z : Nat → Prop}  {k22 : Hp × Int × Int × Int × Int × Int → Option (Int × Hp)} {h h' : Hp} {x0 x1 x2 x3 x4 r : Int}  (hk22 : ∀ s o, k22 s = some o → EvB ω N_Md_ask 1306 (QB (some (iV o.1)) z o.2) z s.1 22 [some (aV ω s.2.1), some (iV s.2.2.1), some (iV s.2.2.2.1), some (iV s.2.2.2.2.1), some (iV s.2.2.2.2.2), none, none, none] []) (hL : Md_ask_b22_body  k22 h x0 x1 x2 x3 x4 = some (r, h')) : EvB ω N_Md_ask 1306 (QB (some (iV r)) z h') z h 22 [some (aV ω x0), some (iV x1), some (iV x2), some (iV x3), some (iV x4), none, none, none] [] := by
  unfold Md_ask_b22_body at hL
  refine ev_iload (pc := 22) dX10_ask_22 rfl ?_
  refine ev_bipush (pc := 24) dX10_ask_24 (by decide) ?_
  refine ev_icmp_gt (pc := 26) (tgt := 129) dX10_ask_26 rfl hL rfl (fun hL => ?_) (fun hL => ?_)
  · refine ev_iload_n (pc := 129) (i := 2) dX10_ask_129 rfl rfl ?_
    exact evB_iret (pc := 130) dX10_ask_130 rfl hL
  · refine ev_iconst (pc := 29) dX10_ask_29 ?_
    refine ev_istore (pc := 30) dX10_ask_30 (lnl_v rfl rfl) (Nat.le_of_ble_eq_true rfl) ?_
    refine ev_iconst (pc := 32) dX10_ask_32 ?_
    refine ev_istore (pc := 33) dX10_ask_33 (lnl_v rfl rfl) (Nat.le_of_ble_eq_true rfl) ?_
    refine ev_iconst (pc := 35) dX10_ask_35 ?_
    refine ev_istore (pc := 36) dX10_ask_36 (lnl_v rfl rfl) (Nat.le_of_ble_eq_true rfl) ?_
    exact ev_le (lvle_s (lvle_s (lvle_s (lvle_s (lvle_s (lvle_s (lvle_s (lvle_s lvle_z)))))))) (KMd_ask_b38 hk22 hL)
set_option maxHeartbeats 1000000 in
set_option maxRecDepth 100000 in
theorem KMd_ask_b22 {ω : Wd} {z : Nat → Prop}  {h h' : Hp} {x0 x1 x2 x3 x4 r : Int}  (hL : Md_ask_b22 h x0 x1 x2 x3 x4 = some (r, h')) : EvB ω N_Md_ask 1306 (QB (some (iV r)) z h') z h 22 [some (aV ω x0), some (iV x1), some (iV x2), some (iV x3), some (iV x4), none, none, none] [] := by
  unfold Md_ask_b22 at hL
  refine itr_link (P := fun (s : Hp × Int × Int × Int × Int × Int) (o : Int × Hp) => EvB ω N_Md_ask 1306 (QB (some (iV o.1)) z o.2) z s.1 22 [some (aV ω s.2.1), some (iV s.2.2.1), some (iV s.2.2.2.1), some (iV s.2.2.2.2.1), some (iV s.2.2.2.2.2), none, none, none] []) ?_ _ _ _ hL
  intro k hk s o h9
  have h10 := KMd_ask_b22_body (ω := ω) (z := z) (k22 := k) (h := s.1) (x0 := s.2.1) (x1 := s.2.2.1) (x2 := s.2.2.2.1) (x3 := s.2.2.2.2.1) (x4 := s.2.2.2.2.2) (r := o.1) (h' := o.2) 
  exact h10 hk h9
set_option maxHeartbeats 1000000 in
set_option maxRecDepth 100000 in
theorem M_Md_ask {ω : Wd} {z : Nat → Prop} {h h' : Hp} {a0 a1 r : Int}  (hL : Md_ask h a0 a1 = some (r, h')) : CtB ω N_Md_ask 1306 [aV ω a0, iV a1] z h (some (iV r)) h' := by
  unfold Md_ask at hL
  refine Ct_of (lv := [some (aV ω a0), some (iV a1), none, none, none, none, none, none]) (by decide) (Nat.le_trans (sl_1 (cat_aV _ _) (sl_1 (cat_iV _) sl_z)) (Nat.le_of_ble_eq_true rfl)) (la_1 (cat_aV _ _) (la_1 (cat_iV _) (la_n (la_n (la_n (la_n (la_n (la_n la_z)))))))) ?_
  refine ev_aload_n (pc := 0) (i := 0) dX10_ask_0 rfl rfl ?_
  refine ev_iconst (pc := 1) dX10_ask_1 ?_
  obtain ⟨hs1, hL⟩ := cC_un hL
  refine evB_putI (pc := 2) (c9 := 10) (k9 := 0) (kI := 0) dX10_ask_2 fl_Md_96 hs1 (by decide) (fun q hq => by cases hq; rfl) rfl rfl rfl ?_
  refine ev_puG hL (fun h2 hL => ?_)
  refine ev_aload_n (pc := 5) (i := 0) dX10_ask_5 rfl rfl ?_
  refine ev_iload_n (pc := 6) (i := 1) dX10_ask_6 rfl rfl ?_
  obtain ⟨r3, h4, hc5, hL⟩ := cl_un hL
  refine evB_callV_I (pc := 7) (M_Md_isWrong hc5) dX10_ask_7 mt_Md_isWrong st_Md_isWrong ml_Md_369 hs1 (by decide) ⟨_, rfl, rfl⟩ (Nat.le_of_ble_eq_true rfl) rfl rfl (Nat.le_trans sm_z (by decide)) ?_
  refine ev_if_ne (pc := 10) (tgt := 15) dX10_ask_10 rfl hL rfl (fun hL => ?_) (fun hL => ?_)
  · refine ev_iconst (pc := 13) dX10_ask_13 ?_
    exact evB_iret (pc := 14) dX10_ask_14 rfl hL
  · refine ev_iconst (pc := 15) dX10_ask_15 ?_
    refine ev_istore_n (pc := 16) (i := 2) dX10_ask_16 rfl (lnl_v rfl rfl) (Nat.le_of_ble_eq_true rfl) ?_
    refine ev_iconst (pc := 17) dX10_ask_17 ?_
    refine ev_istore_n (pc := 18) (i := 3) dX10_ask_18 rfl (lnl_v rfl rfl) (Nat.le_of_ble_eq_true rfl) ?_
    refine ev_iconst (pc := 19) dX10_ask_19 ?_
    refine ev_istore (pc := 20) dX10_ask_20 (lnl_v rfl rfl) (Nat.le_of_ble_eq_true rfl) ?_
    exact ev_le (lvle_s (lvle_s (lvle_s (lvle_s (lvle_s (lvle_n (lvle_n (lvle_n lvle_z)))))))) (KMd_ask_b22  hL)
set_option maxHeartbeats 1000000 in
set_option maxRecDepth 100000 in
theorem KMd_back_b16_body {ω : Wd} {z : Nat → Prop}  {k16 : Hp × Int × Int → Option (Int × Hp)} {h h' : Hp} {x0 x1 r : Int}  (hk16 : ∀ s o, k16 s = some o → EvB ω N_Md_back 1 (QB (some (iV o.1)) z o.2) z s.1 16 [some (aV ω s.2.1), some (iV s.2.2)] []) (hL : Md_back_b16_body  k16 h x0 x1 = some (r, h')) : EvB ω N_Md_back 1 (QB (some (iV r)) z h') z h 16 [some (aV ω x0), some (iV x1)] [] := by
  unfold Md_back_b16_body at hL
  refine ev_iload_n (pc := 16) (i := 1) dX10_back_16 rfl rfl ?_
  refine ev_sipush (pc := 17) dX10_back_17 (by decide) ?_
  refine ev_icmp_ge (pc := 20) (tgt := 41) dX10_back_20 rfl hL rfl (fun hL => ?_) (fun hL => ?_)
  · refine ev_aload_n (pc := 23) (i := 0) dX10_back_23 rfl rfl ?_
    obtain ⟨hs3, hL⟩ := cC_un hL
    refine ev_get (pc := 24) (c9 := 10) (k9 := 32) dX10_back_24 fl_Md_61 (by decide) hs3 (gv10_32 hs3) ?_
    refine ev_iload_n (pc := 27) (i := 1) dX10_back_27 rfl rfl ?_
    refine ev_aload_n (pc := 28) (i := 0) dX10_back_28 rfl rfl ?_
    refine ev_get (pc := 29) (c9 := 10) (k9 := 52) dX10_back_29 fl_Md_93 (by decide) hs3 (gv10_52 hs3) ?_
    refine ev_iload_n (pc := 32) (i := 1) dX10_back_32 rfl rfl ?_
    obtain ⟨q4a, q4b, q4c, hL⟩ := cX_un hL
    refine ev_iald (pc := 33) dX10_back_33 q4a q4b q4c ?_
    obtain ⟨q5a, q5d, q5b, q5c, hL⟩ := cY_un hL
    refine ev_iast (pc := 34) dX10_back_34 q5a q5d q5b q5c ?_
    refine ev_puG hL (fun h6 hL => ?_)
    refine ev_iinc (pc := 35) dX10_back_35 rfl (lnl_v (cat_aV _ _) rfl) (Nat.le_of_ble_eq_true rfl) ?_
    refine ev_goto (pc := 38) (tgt := 16) dX10_back_38 rfl ?_
    exact ev_le (lvle_s (lvle_s lvle_z)) (hk16 _ _ hL)
  · refine ev_aload_n (pc := 41) (i := 0) dX10_back_41 rfl rfl ?_
    refine ev_iconst (pc := 42) dX10_back_42 ?_
    obtain ⟨hs7, hL⟩ := cC_un hL
    refine evB_putI (pc := 43) (c9 := 10) (k9 := 42) (kI := 42) dX10_back_43 fl_Md_303 hs7 (by decide) (fun q hq => by cases hq; rfl) rfl rfl rfl ?_
    refine ev_puG hL (fun h8 hL => ?_)
    refine ev_aload_n (pc := 46) (i := 0) dX10_back_46 rfl rfl ?_
    refine ev_get (pc := 47) (c9 := 10) (k9 := 32) dX10_back_47 fl_Md_61 (by decide) hs7 (gv10_32 hs7) ?_
    refine ev_bipush (pc := 50) dX10_back_50 (by decide) ?_
    obtain ⟨q9a, q9b, q9c, hL⟩ := cX_un hL
    refine ev_iald (pc := 52) dX10_back_52 q9a q9b q9c ?_
    exact evB_iret (pc := 53) dX10_back_53 rfl hL
set_option maxHeartbeats 1000000 in
set_option maxRecDepth 100000 in
theorem KMd_back_b16 {ω : Wd} {z : Nat → Prop}  {h h' : Hp} {x0 x1 r : Int}  (hL : Md_back_b16 h x0 x1 = some (r, h')) : EvB ω N_Md_back 1 (QB (some (iV r)) z h') z h 16 [some (aV ω x0), some (iV x1)] [] := by
  unfold Md_back_b16 at hL
  refine itr_link (P := fun (s : Hp × Int × Int) (o : Int × Hp) => EvB ω N_Md_back 1 (QB (some (iV o.1)) z o.2) z s.1 16 [some (aV ω s.2.1), some (iV s.2.2)] []) ?_ _ _ _ hL
  intro k hk s o h9
  have h10 := KMd_back_b16_body (ω := ω) (z := z) (k16 := k) (h := s.1) (x0 := s.2.1) (x1 := s.2.2) (r := o.1) (h' := o.2) 
  exact h10 hk h9
set_option maxHeartbeats 1000000 in
set_option maxRecDepth 100000 in
theorem M_Md_back {ω : Wd} {z : Nat → Prop} {h h' : Hp} {a0 r : Int}  (hL : Md_back h a0 = some (r, h')) : CtB ω N_Md_back 1 [aV ω a0] z h (some (iV r)) h' := by
  unfold Md_back at hL
  refine Ct_of (lv := [some (aV ω a0), none]) (by decide) (Nat.le_trans (sl_1 (cat_aV _ _) sl_z) (Nat.le_of_ble_eq_true rfl)) (la_1 (cat_aV _ _) (la_n la_z)) ?_
  refine ev_aload_n (pc := 0) (i := 0) dX10_back_0 rfl rfl ?_
  refine ev_iconst (pc := 1) dX10_back_1 ?_
  obtain ⟨hs1, hL⟩ := cC_un hL
  refine evB_putI (pc := 2) (c9 := 10) (k9 := 0) (kI := 0) dX10_back_2 fl_Md_96 hs1 (by decide) (fun q hq => by cases hq; rfl) rfl rfl rfl ?_
  refine ev_puG hL (fun h2 hL => ?_)
  refine ev_aload_n (pc := 5) (i := 0) dX10_back_5 rfl rfl ?_
  refine ev_get (pc := 6) (c9 := 10) (k9 := 53) dX10_back_6 fl_Md_306 (by decide) hs1 gv10_53 ?_
  refine ev_if_ne (pc := 9) (tgt := 14) dX10_back_9 rfl hL rfl (fun hL => ?_) (fun hL => ?_)
  · refine ev_iconst (pc := 12) dX10_back_12 ?_
    exact evB_iret (pc := 13) dX10_back_13 rfl hL
  · refine ev_iconst (pc := 14) dX10_back_14 ?_
    refine ev_istore_n (pc := 15) (i := 1) dX10_back_15 rfl (lnl_v (cat_aV _ _) rfl) (Nat.le_of_ble_eq_true rfl) ?_
    exact ev_le (lvle_s (lvle_s lvle_z)) (KMd_back_b16  hL)
set_option maxHeartbeats 1000000 in
set_option maxRecDepth 100000 in
theorem KMd_bytesIn_b5_body {ω : Wd} {z : Nat → Prop}  {k5 : Hp × Int × Int × Int → Option (Int × Hp)} {h h' : Hp} {x0 x1 x2 r : Int}  (hk5 : ∀ s o, k5 s = some o → EvB ω N_Md_bytesIn 1 (QB (some (iV o.1)) z o.2) z s.1 5 [some (iV s.2.1), some (iV s.2.2.1), some (iV s.2.2.2)] []) (hL : Md_bytesIn_b5_body  k5 h x0 x1 x2 = some (r, h')) : EvB ω N_Md_bytesIn 1 (QB (some (iV r)) z h') z h 5 [some (iV x0), some (iV x1), some (iV x2)] [] := by
  unfold Md_bytesIn_b5_body at hL
  refine ev_iload_n (pc := 5) (i := 2) dX10_bytesIn_5 rfl rfl ?_
  refine ev_if_lt (pc := 6) (tgt := 33) dX10_bytesIn_6 rfl hL rfl (fun hL => ?_) (fun hL => ?_)
  · refine ev_iload_n (pc := 33) (i := 1) dX10_bytesIn_33 rfl rfl ?_
    exact evB_iret (pc := 34) dX10_bytesIn_34 rfl hL
  · refine ev_iload_n (pc := 9) (i := 1) dX10_bytesIn_9 rfl rfl ?_
    refine ev_iload_n (pc := 10) (i := 0) dX10_bytesIn_10 rfl rfl ?_
    refine ev_iload_n (pc := 11) (i := 2) dX10_bytesIn_11 rfl rfl ?_
    refine ev_ishr (pc := 12) dX10_bytesIn_12 ?_
    refine ev_sipush (pc := 13) dX10_bytesIn_13 (by decide) ?_
    refine ev_iand (pc := 16) dX10_bytesIn_16 ?_
    refine ev_if_eq (pc := 17) (tgt := 24) dX10_bytesIn_17 rfl hL rfl (fun hL => ?_) (fun hL => ?_)
    · refine ev_iconst (pc := 24) dX10_bytesIn_24 ?_
      refine ev_iadd (pc := 25) dX10_bytesIn_25 ?_
      refine ev_bdI hL (fun v1 hL => ?_)
      refine ev_istore_n (pc := 26) (i := 1) dX10_bytesIn_26 rfl (lnl_v rfl rfl) (Nat.le_of_ble_eq_true rfl) ?_
      refine ev_iinc (pc := 27) dX10_bytesIn_27 rfl (lnl_v rfl rfl) (Nat.le_of_ble_eq_true rfl) ?_
      refine ev_goto (pc := 30) (tgt := 5) dX10_bytesIn_30 rfl ?_
      exact ev_le (lvle_s (lvle_s (lvle_s lvle_z))) (hk5 _ _ hL)
    · refine ev_iconst (pc := 20) dX10_bytesIn_20 ?_
      refine ev_goto (pc := 21) (tgt := 25) dX10_bytesIn_21 rfl ?_
      refine ev_iadd (pc := 25) dX10_bytesIn_25 ?_
      refine ev_bdI hL (fun v2 hL => ?_)
      refine ev_istore_n (pc := 26) (i := 1) dX10_bytesIn_26 rfl (lnl_v rfl rfl) (Nat.le_of_ble_eq_true rfl) ?_
      refine ev_iinc (pc := 27) dX10_bytesIn_27 rfl (lnl_v rfl rfl) (Nat.le_of_ble_eq_true rfl) ?_
      refine ev_goto (pc := 30) (tgt := 5) dX10_bytesIn_30 rfl ?_
      exact ev_le (lvle_s (lvle_s (lvle_s lvle_z))) (hk5 _ _ hL)
set_option maxHeartbeats 1000000 in
set_option maxRecDepth 100000 in
theorem KMd_bytesIn_b5 {ω : Wd} {z : Nat → Prop}  {h h' : Hp} {x0 x1 x2 r : Int}  (hL : Md_bytesIn_b5 h x0 x1 x2 = some (r, h')) : EvB ω N_Md_bytesIn 1 (QB (some (iV r)) z h') z h 5 [some (iV x0), some (iV x1), some (iV x2)] [] := by
  unfold Md_bytesIn_b5 at hL
  refine itr_link (P := fun (s : Hp × Int × Int × Int) (o : Int × Hp) => EvB ω N_Md_bytesIn 1 (QB (some (iV o.1)) z o.2) z s.1 5 [some (iV s.2.1), some (iV s.2.2.1), some (iV s.2.2.2)] []) ?_ _ _ _ hL
  intro k hk s o h9
  have h10 := KMd_bytesIn_b5_body (ω := ω) (z := z) (k5 := k) (h := s.1) (x0 := s.2.1) (x1 := s.2.2.1) (x2 := s.2.2.2) (r := o.1) (h' := o.2) 
  exact h10 hk h9
set_option maxHeartbeats 1000000 in
set_option maxRecDepth 100000 in
theorem M_Md_bytesIn {ω : Wd} {z : Nat → Prop} {h h' : Hp} {a0 r : Int}  (hL : Md_bytesIn h a0 = some (r, h')) : CtB ω N_Md_bytesIn 1 [iV a0] z h (some (iV r)) h' := by
  unfold Md_bytesIn at hL
  refine Ct_of (lv := [some (iV a0), none, none]) (by decide) (Nat.le_trans (sl_1 (cat_iV _) sl_z) (Nat.le_of_ble_eq_true rfl)) (la_1 (cat_iV _) (la_n (la_n la_z))) ?_
  refine ev_iconst (pc := 0) dX10_bytesIn_0 ?_
  refine ev_istore_n (pc := 1) (i := 1) dX10_bytesIn_1 rfl (lnl_v rfl rfl) (Nat.le_of_ble_eq_true rfl) ?_
  refine ev_bipush (pc := 2) dX10_bytesIn_2 (by decide) ?_
  refine ev_istore_n (pc := 4) (i := 2) dX10_bytesIn_4 rfl (lnl_v rfl rfl) (Nat.le_of_ble_eq_true rfl) ?_
  exact ev_le (lvle_s (lvle_s (lvle_s lvle_z))) (KMd_bytesIn_b5  hL)
set_option maxHeartbeats 1000000 in
set_option maxRecDepth 100000 in
theorem M_Md_canPardon {ω : Wd} {z : Nat → Prop} {h h' : Hp} {a0 a1 a2 a3 r : Int}  (hL : Md_canPardon h a0 a1 a2 a3 = some (r, h')) : CtB ω N_Md_canPardon 3 [aV ω a0, aV ω a1, iV a2, iV a3] z h (some (iV r)) h' := by
  unfold Md_canPardon at hL
  refine Ct_of (lv := [some (aV ω a0), some (aV ω a1), some (iV a2), some (iV a3)]) (by decide) (Nat.le_trans (sl_1 (cat_aV _ _) (sl_1 (cat_aV _ _) (sl_1 (cat_iV _) (sl_1 (cat_iV _) sl_z)))) (Nat.le_of_ble_eq_true rfl)) (la_1 (cat_aV _ _) (la_1 (cat_aV _ _) (la_1 (cat_iV _) (la_1 (cat_iV _) la_z)))) ?_
  refine ev_aload_n (pc := 0) (i := 0) dX10_canPardon_0 rfl rfl ?_
  refine ev_iload_n (pc := 1) (i := 2) dX10_canPardon_1 rfl rfl ?_
  refine ev_iload_n (pc := 2) (i := 3) dX10_canPardon_2 rfl rfl ?_
  obtain ⟨hs1, hL⟩ := cC_un hL
  obtain ⟨r2, h3, hc4, hL⟩ := cl_un hL
  refine evB_callV_I (pc := 3) (M_Md_areTwo hc4) dX10_canPardon_3 mt_Md_areTwo st_Md_areTwo ml_Md_393 hs1 (by decide) ⟨_, rfl, rfl⟩ (Nat.le_of_ble_eq_true rfl) rfl rfl (Nat.le_trans sm_z (by decide)) ?_
  refine ev_if_eq (pc := 6) (tgt := 30) dX10_canPardon_6 rfl hL rfl (fun hL => ?_) (fun hL => ?_)
  · refine ev_iconst (pc := 30) dX10_canPardon_30 ?_
    exact evB_zret (pc := 31) dX10_canPardon_31 rfl rfl hL
  · refine ev_aload_n (pc := 9) (i := 1) dX10_canPardon_9 rfl rfl ?_
    refine ev_iload_n (pc := 10) (i := 2) dX10_canPardon_10 rfl rfl ?_
    refine ev_iload_n (pc := 11) (i := 3) dX10_canPardon_11 rfl rfl ?_
    obtain ⟨r5, h6, hc7, hL⟩ := cl_un hL
    refine evB_callS_I (pc := 12) (M_Md_owes hc7) dX10_canPardon_12 mt_Md_owes st_Md_owes ml_Md_312 (Nat.le_of_ble_eq_true rfl) rfl rfl (Nat.le_trans sm_z (by decide)) ?_
    refine ev_if_le (pc := 15) (tgt := 30) dX10_canPardon_15 rfl hL rfl (fun hL => ?_) (fun hL => ?_)
    · refine ev_aload_n (pc := 18) (i := 1) dX10_canPardon_18 rfl rfl ?_
      refine ev_bipush (pc := 19) dX10_canPardon_19 (by decide) ?_
      obtain ⟨q8a, q8b, q8c, hL⟩ := cX_un hL
      refine ev_iald (pc := 21) dX10_canPardon_21 q8a q8b q8c ?_
      refine ev_iconst (pc := 22) dX10_canPardon_22 ?_
      refine ev_icmp_lt (pc := 23) (tgt := 30) dX10_canPardon_23 rfl hL rfl (fun hL => ?_) (fun hL => ?_)
      · refine ev_iconst (pc := 30) dX10_canPardon_30 ?_
        exact evB_zret (pc := 31) dX10_canPardon_31 rfl rfl hL
      · refine ev_iconst (pc := 26) dX10_canPardon_26 ?_
        refine ev_goto (pc := 27) (tgt := 31) dX10_canPardon_27 rfl ?_
        exact evB_zret (pc := 31) dX10_canPardon_31 rfl rfl hL
    · refine ev_iconst (pc := 30) dX10_canPardon_30 ?_
      exact evB_zret (pc := 31) dX10_canPardon_31 rfl rfl hL
set_option maxHeartbeats 1000000 in
set_option maxRecDepth 100000 in
theorem M_Md_canSentence {ω : Wd} {z : Nat → Prop} {h h' : Hp} {a0 a1 a2 r : Int}  (hL : Md_canSentence h a0 a1 a2 = some (r, h')) : CtB ω N_Md_canSentence 2 [aV ω a0, aV ω a1, iV a2] z h (some (iV r)) h' := by
  unfold Md_canSentence at hL
  refine Ct_of (lv := [some (aV ω a0), some (aV ω a1), some (iV a2)]) (by decide) (Nat.le_trans (sl_1 (cat_aV _ _) (sl_1 (cat_aV _ _) (sl_1 (cat_iV _) sl_z))) (Nat.le_of_ble_eq_true rfl)) (la_1 (cat_aV _ _) (la_1 (cat_aV _ _) (la_1 (cat_iV _) la_z))) ?_
  refine ev_aload_n (pc := 0) (i := 0) dX10_canSentence_0 rfl rfl ?_
  refine ev_iload_n (pc := 1) (i := 2) dX10_canSentence_1 rfl rfl ?_
  obtain ⟨hs1, hL⟩ := cC_un hL
  obtain ⟨r2, h3, hc4, hL⟩ := cl_un hL
  refine evB_callV_I (pc := 2) (M_Md_isWrong hc4) dX10_canSentence_2 mt_Md_isWrong st_Md_isWrong ml_Md_369 hs1 (by decide) ⟨_, rfl, rfl⟩ (Nat.le_of_ble_eq_true rfl) rfl rfl (Nat.le_trans sm_z (by decide)) ?_
  refine ev_if_eq (pc := 5) (tgt := 23) dX10_canSentence_5 rfl hL rfl (fun hL => ?_) (fun hL => ?_)
  · refine ev_iconst (pc := 23) dX10_canSentence_23 ?_
    exact evB_zret (pc := 24) dX10_canSentence_24 rfl rfl hL
  · refine ev_aload_n (pc := 8) (i := 1) dX10_canSentence_8 rfl rfl ?_
    refine ev_bipush (pc := 9) dX10_canSentence_9 (by decide) ?_
    obtain ⟨q5a, q5b, q5c, hL⟩ := cX_un hL
    refine ev_iald (pc := 11) dX10_canSentence_11 q5a q5b q5c ?_
    refine ev_iload_n (pc := 12) (i := 2) dX10_canSentence_12 rfl rfl ?_
    obtain ⟨r6, h7, hc8, hL⟩ := cl_un hL
    refine evB_callS_I (pc := 13) (M_Md_has hc8) dX10_canSentence_13 mt_Md_has st_Md_has ml_Md_229 (Nat.le_of_ble_eq_true rfl) rfl rfl (Nat.le_trans sm_z (by decide)) ?_
    refine ev_if_ne (pc := 16) (tgt := 23) dX10_canSentence_16 rfl hL rfl (fun hL => ?_) (fun hL => ?_)
    · refine ev_iconst (pc := 19) dX10_canSentence_19 ?_
      refine ev_goto (pc := 20) (tgt := 24) dX10_canSentence_20 rfl ?_
      exact evB_zret (pc := 24) dX10_canSentence_24 rfl rfl hL
    · refine ev_iconst (pc := 23) dX10_canSentence_23 ?_
      exact evB_zret (pc := 24) dX10_canSentence_24 rfl rfl hL
set_option maxHeartbeats 1000000 in
set_option maxRecDepth 100000 in
theorem M_Md_canStep {ω : Wd} {z : Nat → Prop} {h h' : Hp} {a0 a1 a2 r : Int}  (hL : Md_canStep h a0 a1 a2 = some (r, h')) : CtB ω N_Md_canStep 4 [aV ω a0, aV ω a1, iV a2] z h (some (iV r)) h' := by
  unfold Md_canStep at hL
  refine Ct_of (lv := [some (aV ω a0), some (aV ω a1), some (iV a2), none]) (by decide) (Nat.le_trans (sl_1 (cat_aV _ _) (sl_1 (cat_aV _ _) (sl_1 (cat_iV _) sl_z))) (Nat.le_of_ble_eq_true rfl)) (la_1 (cat_aV _ _) (la_1 (cat_aV _ _) (la_1 (cat_iV _) (la_n la_z)))) ?_
  refine ev_aload_n (pc := 0) (i := 0) dX10_canStep_0 rfl rfl ?_
  obtain ⟨hs1, hL⟩ := cC_un hL
  refine ev_get (pc := 1) (c9 := 10) (k9 := 24) dX10_canStep_1 fl_Md_55 (by decide) hs1 (gv10_24 hs1) ?_
  refine ev_iload_n (pc := 4) (i := 2) dX10_canStep_4 rfl rfl ?_
  refine ev_iconst (pc := 5) dX10_canStep_5 ?_
  refine ev_iadd (pc := 6) dX10_canStep_6 ?_
  obtain ⟨q2a, q2b, q2c, hL⟩ := cX_un hL
  refine ev_iald (pc := 7) dX10_canStep_7 q2a q2b q2c ?_
  refine ev_bdI hL (fun v3 hL => ?_)
  refine ev_istore_n (pc := 8) (i := 3) dX10_canStep_8 rfl (lnl_v rfl rfl) (Nat.le_of_ble_eq_true rfl) ?_
  refine ev_aload_n (pc := 9) (i := 0) dX10_canStep_9 rfl rfl ?_
  refine ev_get (pc := 10) (c9 := 10) (k9 := 24) dX10_canStep_10 fl_Md_55 (by decide) hs1 (gv10_24 hs1) ?_
  refine ev_iload_n (pc := 13) (i := 2) dX10_canStep_13 rfl rfl ?_
  obtain ⟨q4a, q4b, q4c, hL⟩ := cX_un hL
  refine ev_iald (pc := 14) dX10_canStep_14 q4a q4b q4c ?_
  rcases ite_un hL with ⟨hx, hL⟩ | ⟨hx8, hL⟩
  · refine evB_tswIn (pc := 15) (tgt := 40) dX10_canStep_15 hx (by decide) (by decide) rfl rfl ?_
    refine ev_aload_n (pc := 40) (i := 0) dX10_canStep_40 rfl rfl ?_
    refine ev_aload_n (pc := 41) (i := 1) dX10_canStep_41 rfl rfl ?_
    refine ev_iload_n (pc := 42) (i := 3) dX10_canStep_42 rfl rfl ?_
    obtain ⟨r5, h6, hc7, hL⟩ := cl_un hL
    refine evB_callV_I (pc := 43) (M_Md_canSentence hc7) dX10_canStep_43 mt_Md_canSentence st_Md_canSentence ml_Md_380 hs1 (by decide) ⟨_, rfl, rfl⟩ (Nat.le_of_ble_eq_true rfl) rfl rfl (Nat.le_trans sm_z (by decide)) ?_
    exact evB_zret (pc := 46) dX10_canStep_46 rfl rfl hL
  · rcases ite_un hL with ⟨hx, hL⟩ | ⟨hx10, hL⟩
    · refine evB_tswIn (pc := 15) (tgt := 47) dX10_canStep_15 hx (by decide) (by decide) rfl rfl ?_
      refine ev_aload_n (pc := 47) (i := 1) dX10_canStep_47 rfl rfl ?_
      refine ev_bipush (pc := 48) dX10_canStep_48 (by decide) ?_
      obtain ⟨q9a, q9b, q9c, hL⟩ := cX_un hL
      refine ev_iald (pc := 50) dX10_canStep_50 q9a q9b q9c ?_
      refine ev_sipush (pc := 51) dX10_canStep_51 (by decide) ?_
      refine ev_icmp_ge (pc := 54) (tgt := 61) dX10_canStep_54 rfl hL rfl (fun hL => ?_) (fun hL => ?_)
      · refine ev_iconst (pc := 57) dX10_canStep_57 ?_
        refine ev_goto (pc := 58) (tgt := 62) dX10_canStep_58 rfl ?_
        exact evB_zret (pc := 62) dX10_canStep_62 rfl rfl hL
      · refine ev_iconst (pc := 61) dX10_canStep_61 ?_
        exact evB_zret (pc := 62) dX10_canStep_62 rfl rfl hL
    · rcases ite_un hL with ⟨hx, hL⟩ | ⟨hx15, hL⟩
      · refine evB_tswIn (pc := 15) (tgt := 63) dX10_canStep_15 hx (by decide) (by decide) rfl rfl ?_
        refine ev_aload_n (pc := 63) (i := 0) dX10_canStep_63 rfl rfl ?_
        refine ev_aload_n (pc := 64) (i := 1) dX10_canStep_64 rfl rfl ?_
        refine ev_iload_n (pc := 65) (i := 3) dX10_canStep_65 rfl rfl ?_
        refine ev_aload_n (pc := 66) (i := 0) dX10_canStep_66 rfl rfl ?_
        refine ev_get (pc := 67) (c9 := 10) (k9 := 24) dX10_canStep_67 fl_Md_55 (by decide) hs1 (gv10_24 hs1) ?_
        refine ev_iload_n (pc := 70) (i := 2) dX10_canStep_70 rfl rfl ?_
        refine ev_iconst (pc := 71) dX10_canStep_71 ?_
        refine ev_iadd (pc := 72) dX10_canStep_72 ?_
        obtain ⟨q11a, q11b, q11c, hL⟩ := cX_un hL
        refine ev_iald (pc := 73) dX10_canStep_73 q11a q11b q11c ?_
        obtain ⟨r12, h13, hc14, hL⟩ := cl_un hL
        refine evB_callV_I (pc := 74) (M_Md_canAppeal hc14) dX10_canStep_74 mt_Md_canAppeal st_Md_canAppeal ml_Md_396 hs1 (by decide) ⟨_, rfl, rfl⟩ (Nat.le_of_ble_eq_true rfl) rfl rfl (Nat.le_trans sm_z (by decide)) ?_
        exact evB_zret (pc := 77) dX10_canStep_77 rfl rfl hL
      · refine evB_tswOut (pc := 15) (tgt := 78) dX10_canStep_15 (by omega) rfl ?_
        refine ev_aload_n (pc := 78) (i := 0) dX10_canStep_78 rfl rfl ?_
        refine ev_aload_n (pc := 79) (i := 1) dX10_canStep_79 rfl rfl ?_
        refine ev_iload_n (pc := 80) (i := 3) dX10_canStep_80 rfl rfl ?_
        refine ev_aload_n (pc := 81) (i := 0) dX10_canStep_81 rfl rfl ?_
        refine ev_get (pc := 82) (c9 := 10) (k9 := 24) dX10_canStep_82 fl_Md_55 (by decide) hs1 (gv10_24 hs1) ?_
        refine ev_iload_n (pc := 85) (i := 2) dX10_canStep_85 rfl rfl ?_
        refine ev_iconst (pc := 86) dX10_canStep_86 ?_
        refine ev_iadd (pc := 87) dX10_canStep_87 ?_
        obtain ⟨q16a, q16b, q16c, hL⟩ := cX_un hL
        refine ev_iald (pc := 88) dX10_canStep_88 q16a q16b q16c ?_
        obtain ⟨r17, h18, hc19, hL⟩ := cl_un hL
        refine evB_callV_I (pc := 89) (M_Md_canPardon hc19) dX10_canStep_89 mt_Md_canPardon st_Md_canPardon ml_Md_404 hs1 (by decide) ⟨_, rfl, rfl⟩ (Nat.le_of_ble_eq_true rfl) rfl rfl (Nat.le_trans sm_z (by decide)) ?_
        exact evB_zret (pc := 92) dX10_canStep_92 rfl rfl hL
set_option maxHeartbeats 1000000 in
set_option maxRecDepth 100000 in
theorem M_Md_isIn {ω : Wd} {z : Nat → Prop} {h h' : Hp} {a0 a2 a4 r : Int}  (hL : Md_isIn h a0 a2 a4 = some (r, h')) : CtB ω N_Md_isIn 1 [lV a0, lV a2, lV a4] z h (some (iV r)) h' := by
  unfold Md_isIn at hL
  refine Ct_of (lv := [some (lV a0), none, some (lV a2), none, some (lV a4), none]) (by decide) (Nat.le_trans (sl_2 (cat_lV _) (sl_2 (cat_lV _) (sl_2 (cat_lV _) sl_z))) (Nat.le_of_ble_eq_true rfl)) (la_2 (cat_lV _) (la_2 (cat_lV _) (la_2 (cat_lV _) la_z))) ?_
  refine ev_lload_n (pc := 0) (i := 0) dX10_isIn_0 rfl rfl ?_
  refine ev_lload_n (pc := 1) (i := 2) dX10_isIn_1 rfl rfl ?_
  refine ev_lcmp (pc := 2) dX10_isIn_2 ?_
  refine ev_if_lt (pc := 3) (tgt := 17) dX10_isIn_3 rfl hL rfl (fun hL => ?_) (fun hL => ?_)
  · refine ev_iconst (pc := 17) dX10_isIn_17 ?_
    exact evB_zret (pc := 18) dX10_isIn_18 rfl rfl hL
  · refine ev_lload_n (pc := 6) (i := 0) dX10_isIn_6 rfl rfl ?_
    refine ev_lload (pc := 7) dX10_isIn_7 rfl ?_
    refine ev_lcmp (pc := 9) dX10_isIn_9 ?_
    refine ev_if_gt (pc := 10) (tgt := 17) dX10_isIn_10 rfl hL rfl (fun hL => ?_) (fun hL => ?_)
    · refine ev_iconst (pc := 17) dX10_isIn_17 ?_
      exact evB_zret (pc := 18) dX10_isIn_18 rfl rfl hL
    · refine ev_iconst (pc := 13) dX10_isIn_13 ?_
      refine ev_goto (pc := 14) (tgt := 18) dX10_isIn_14 rfl ?_
      exact evB_zret (pc := 18) dX10_isIn_18 rfl rfl hL
set_option maxHeartbeats 1000000 in
set_option maxRecDepth 100000 in
theorem KMd_circle_b81_body {ω : Wd} {z : Nat → Prop}  {k81 : Hp × Int × Int × Int × Int × Int → Option (Int × Hp)} {h h' : Hp} {x0 x1 x2 x3 x4 r : Int}  (hk81 : ∀ s o, k81 s = some o → EvB ω N_Md_circle 2 (QB (some (iV o.1)) z o.2) z s.1 81 [some (aV ω s.2.1), some (iV s.2.2.1), some (iV s.2.2.2.1), some (iV s.2.2.2.2.1), some (iV s.2.2.2.2.2)] []) (hL : Md_circle_b81_body  k81 h x0 x1 x2 x3 x4 = some (r, h')) : EvB ω N_Md_circle 2 (QB (some (iV r)) z h') z h 81 [some (aV ω x0), some (iV x1), some (iV x2), some (iV x3), some (iV x4)] [] := by
  unfold Md_circle_b81_body at hL
  refine ev_iload (pc := 81) dX10_circle_81 rfl ?_
  refine ev_aload_n (pc := 83) (i := 0) dX10_circle_83 rfl rfl ?_
  obtain ⟨hs13, hL⟩ := cC_un hL
  refine ev_get (pc := 84) (c9 := 10) (k9 := 26) dX10_circle_84 fl_Md_294 (by decide) hs13 gv10_26 ?_
  refine ev_icmp_ge (pc := 87) (tgt := 125) dX10_circle_87 rfl hL rfl (fun hL => ?_) (fun hL => ?_)
  · refine ev_iload_n (pc := 90) (i := 2) dX10_circle_90 rfl rfl ?_
    refine ev_iconst (pc := 91) dX10_circle_91 ?_
    refine ev_icmp_ne (pc := 92) (tgt := 125) dX10_circle_92 rfl hL rfl (fun hL => ?_) (fun hL => ?_)
    · refine ev_iload_n (pc := 95) (i := 3) dX10_circle_95 rfl rfl ?_
      refine ev_aload_n (pc := 96) (i := 0) dX10_circle_96 rfl rfl ?_
      refine ev_get (pc := 97) (c9 := 10) (k9 := 32) dX10_circle_97 fl_Md_61 (by decide) hs13 (gv10_32 hs13) ?_
      refine ev_iload_n (pc := 100) (i := 1) dX10_circle_100 rfl rfl ?_
      refine ev_iload (pc := 101) dX10_circle_101 rfl ?_
      obtain ⟨r14, h15, hc16, hL⟩ := cl_un hL
      refine evB_callS_I (pc := 103) (M_Md_owes hc16) dX10_circle_103 mt_Md_owes st_Md_owes ml_Md_312 (Nat.le_of_ble_eq_true rfl) rfl rfl (Nat.le_trans (sm_1 (cat_iV _) sm_z) (by decide)) ?_
      refine ev_if_le (pc := 106) (tgt := 116) dX10_circle_106 rfl hL rfl (fun hL => ?_) (fun hL => ?_)
      · refine ev_iconst (pc := 109) dX10_circle_109 ?_
        refine ev_iload (pc := 110) dX10_circle_110 rfl ?_
        refine ev_ishl (pc := 112) dX10_circle_112 ?_
        refine ev_goto (pc := 113) (tgt := 117) dX10_circle_113 rfl ?_
        refine ev_ior (pc := 117) dX10_circle_117 ?_
        refine ev_bdI hL (fun v17 hL => ?_)
        refine ev_istore_n (pc := 118) (i := 3) dX10_circle_118 rfl (lnl_v rfl rfl) (Nat.le_of_ble_eq_true rfl) ?_
        refine ev_iinc (pc := 119) dX10_circle_119 rfl (lnl_v rfl rfl) (Nat.le_of_ble_eq_true rfl) ?_
        refine ev_goto (pc := 122) (tgt := 81) dX10_circle_122 rfl ?_
        exact ev_le (lvle_s (lvle_s (lvle_s (lvle_s (lvle_s lvle_z))))) (hk81 _ _ hL)
      · refine ev_iconst (pc := 116) dX10_circle_116 ?_
        refine ev_ior (pc := 117) dX10_circle_117 ?_
        refine ev_bdI hL (fun v18 hL => ?_)
        refine ev_istore_n (pc := 118) (i := 3) dX10_circle_118 rfl (lnl_v rfl rfl) (Nat.le_of_ble_eq_true rfl) ?_
        refine ev_iinc (pc := 119) dX10_circle_119 rfl (lnl_v rfl rfl) (Nat.le_of_ble_eq_true rfl) ?_
        refine ev_goto (pc := 122) (tgt := 81) dX10_circle_122 rfl ?_
        exact ev_le (lvle_s (lvle_s (lvle_s (lvle_s (lvle_s lvle_z))))) (hk81 _ _ hL)
    · refine ev_iload_n (pc := 125) (i := 3) dX10_circle_125 rfl rfl ?_
      exact evB_iret (pc := 126) dX10_circle_126 rfl hL
  · refine ev_iload_n (pc := 125) (i := 3) dX10_circle_125 rfl rfl ?_
    exact evB_iret (pc := 126) dX10_circle_126 rfl hL
set_option maxHeartbeats 1000000 in
set_option maxRecDepth 100000 in
theorem KMd_circle_b81 {ω : Wd} {z : Nat → Prop}  {h h' : Hp} {x0 x1 x2 x3 x4 r : Int}  (hL : Md_circle_b81 h x0 x1 x2 x3 x4 = some (r, h')) : EvB ω N_Md_circle 2 (QB (some (iV r)) z h') z h 81 [some (aV ω x0), some (iV x1), some (iV x2), some (iV x3), some (iV x4)] [] := by
  unfold Md_circle_b81 at hL
  refine itr_link (P := fun (s : Hp × Int × Int × Int × Int × Int) (o : Int × Hp) => EvB ω N_Md_circle 2 (QB (some (iV o.1)) z o.2) z s.1 81 [some (aV ω s.2.1), some (iV s.2.2.1), some (iV s.2.2.2.1), some (iV s.2.2.2.2.1), some (iV s.2.2.2.2.2)] []) ?_ _ _ _ hL
  intro k hk s o h9
  have h10 := KMd_circle_b81_body (ω := ω) (z := z) (k81 := k) (h := s.1) (x0 := s.2.1) (x1 := s.2.2.1) (x2 := s.2.2.2.1) (x3 := s.2.2.2.2.1) (x4 := s.2.2.2.2.2) (r := o.1) (h' := o.2) 
  exact h10 hk h9
set_option maxHeartbeats 1000000 in
set_option maxRecDepth 100000 in
theorem KMd_circle_b32_body {ω : Wd} {z : Nat → Prop}  {k32 : Hp × Int × Int × Int × Int × Int → Option (Int × Hp)} {h h' : Hp} {x0 x1 x2 x3 x4 r : Int}  (hk32 : ∀ s o, k32 s = some o → EvB ω N_Md_circle 2 (QB (some (iV o.1)) z o.2) z s.1 32 [some (aV ω s.2.1), some (iV s.2.2.1), some (iV s.2.2.2.1), some (iV s.2.2.2.2.1), some (iV s.2.2.2.2.2)] []) (hL : Md_circle_b32_body  k32 h x0 x1 x2 x3 x4 = some (r, h')) : EvB ω N_Md_circle 2 (QB (some (iV r)) z h') z h 32 [some (aV ω x0), some (iV x1), some (iV x2), some (iV x3), some (iV x4)] [] := by
  unfold Md_circle_b32_body at hL
  refine ev_iload (pc := 32) dX10_circle_32 rfl ?_
  refine ev_aload_n (pc := 34) (i := 0) dX10_circle_34 rfl rfl ?_
  obtain ⟨hs9, hL⟩ := cC_un hL
  refine ev_get (pc := 35) (c9 := 10) (k9 := 27) dX10_circle_35 fl_Md_297 (by decide) hs9 gv10_27 ?_
  refine ev_icmp_ge (pc := 38) (tgt := 78) dX10_circle_38 rfl hL rfl (fun hL => ?_) (fun hL => ?_)
  · refine ev_iload_n (pc := 41) (i := 2) dX10_circle_41 rfl rfl ?_
    refine ev_iconst (pc := 42) dX10_circle_42 ?_
    refine ev_icmp_ge (pc := 43) (tgt := 78) dX10_circle_43 rfl hL rfl (fun hL => ?_) (fun hL => ?_)
    · refine ev_iload_n (pc := 46) (i := 3) dX10_circle_46 rfl rfl ?_
      refine ev_aload_n (pc := 47) (i := 0) dX10_circle_47 rfl rfl ?_
      refine ev_get (pc := 48) (c9 := 10) (k9 := 22) dX10_circle_48 fl_Md_49 (by decide) hs9 (gv10_22 hs9) ?_
      refine ev_iconst (pc := 51) dX10_circle_51 ?_
      refine ev_iload (pc := 52) dX10_circle_52 rfl ?_
      refine ev_imul (pc := 54) dX10_circle_54 ?_
      refine ev_iload_n (pc := 55) (i := 2) dX10_circle_55 rfl rfl ?_
      refine ev_iadd (pc := 56) dX10_circle_56 ?_
      obtain ⟨q10a, q10b, q10c, hL⟩ := cX_un hL
      refine ev_iald (pc := 57) dX10_circle_57 q10a q10b q10c ?_
      refine ev_iload_n (pc := 58) (i := 1) dX10_circle_58 rfl rfl ?_
      refine ev_icmp_ne (pc := 59) (tgt := 69) dX10_circle_59 rfl hL rfl (fun hL => ?_) (fun hL => ?_)
      · refine ev_iconst (pc := 62) dX10_circle_62 ?_
        refine ev_iload (pc := 63) dX10_circle_63 rfl ?_
        refine ev_ishl (pc := 65) dX10_circle_65 ?_
        refine ev_goto (pc := 66) (tgt := 70) dX10_circle_66 rfl ?_
        refine ev_ior (pc := 70) dX10_circle_70 ?_
        refine ev_bdI hL (fun v11 hL => ?_)
        refine ev_istore_n (pc := 71) (i := 3) dX10_circle_71 rfl (lnl_v rfl rfl) (Nat.le_of_ble_eq_true rfl) ?_
        refine ev_iinc (pc := 72) dX10_circle_72 rfl (lnl_v rfl rfl) (Nat.le_of_ble_eq_true rfl) ?_
        refine ev_goto (pc := 75) (tgt := 32) dX10_circle_75 rfl ?_
        exact ev_le (lvle_s (lvle_s (lvle_s (lvle_s (lvle_s lvle_z))))) (hk32 _ _ hL)
      · refine ev_iconst (pc := 69) dX10_circle_69 ?_
        refine ev_ior (pc := 70) dX10_circle_70 ?_
        refine ev_bdI hL (fun v12 hL => ?_)
        refine ev_istore_n (pc := 71) (i := 3) dX10_circle_71 rfl (lnl_v rfl rfl) (Nat.le_of_ble_eq_true rfl) ?_
        refine ev_iinc (pc := 72) dX10_circle_72 rfl (lnl_v rfl rfl) (Nat.le_of_ble_eq_true rfl) ?_
        refine ev_goto (pc := 75) (tgt := 32) dX10_circle_75 rfl ?_
        exact ev_le (lvle_s (lvle_s (lvle_s (lvle_s (lvle_s lvle_z))))) (hk32 _ _ hL)
    · refine ev_iconst (pc := 78) dX10_circle_78 ?_
      refine ev_istore (pc := 79) dX10_circle_79 (lnl_v rfl rfl) (Nat.le_of_ble_eq_true rfl) ?_
      exact ev_le (lvle_s (lvle_s (lvle_s (lvle_s (lvle_s lvle_z))))) (KMd_circle_b81  hL)
  · refine ev_iconst (pc := 78) dX10_circle_78 ?_
    refine ev_istore (pc := 79) dX10_circle_79 (lnl_v rfl rfl) (Nat.le_of_ble_eq_true rfl) ?_
    exact ev_le (lvle_s (lvle_s (lvle_s (lvle_s (lvle_s lvle_z))))) (KMd_circle_b81  hL)
set_option maxHeartbeats 1000000 in
set_option maxRecDepth 100000 in
theorem KMd_circle_b32 {ω : Wd} {z : Nat → Prop}  {h h' : Hp} {x0 x1 x2 x3 x4 r : Int}  (hL : Md_circle_b32 h x0 x1 x2 x3 x4 = some (r, h')) : EvB ω N_Md_circle 2 (QB (some (iV r)) z h') z h 32 [some (aV ω x0), some (iV x1), some (iV x2), some (iV x3), some (iV x4)] [] := by
  unfold Md_circle_b32 at hL
  refine itr_link (P := fun (s : Hp × Int × Int × Int × Int × Int) (o : Int × Hp) => EvB ω N_Md_circle 2 (QB (some (iV o.1)) z o.2) z s.1 32 [some (aV ω s.2.1), some (iV s.2.2.1), some (iV s.2.2.2.1), some (iV s.2.2.2.2.1), some (iV s.2.2.2.2.2)] []) ?_ _ _ _ hL
  intro k hk s o h9
  have h10 := KMd_circle_b32_body (ω := ω) (z := z) (k32 := k) (h := s.1) (x0 := s.2.1) (x1 := s.2.2.1) (x2 := s.2.2.2.1) (x3 := s.2.2.2.2.1) (x4 := s.2.2.2.2.2) (r := o.1) (h' := o.2) 
  exact h10 hk h9
set_option maxHeartbeats 1000000 in
set_option maxRecDepth 100000 in
theorem M_Md_circle {ω : Wd} {z : Nat → Prop} {h h' : Hp} {a0 a1 a2 r : Int}  (hL : Md_circle h a0 a1 a2 = some (r, h')) : CtB ω N_Md_circle 2 [aV ω a0, iV a1, iV a2] z h (some (iV r)) h' := by
  unfold Md_circle at hL
  refine Ct_of (lv := [some (aV ω a0), some (iV a1), some (iV a2), none, none]) (by decide) (Nat.le_trans (sl_1 (cat_aV _ _) (sl_1 (cat_iV _) (sl_1 (cat_iV _) sl_z))) (Nat.le_of_ble_eq_true rfl)) (la_1 (cat_aV _ _) (la_1 (cat_iV _) (la_1 (cat_iV _) (la_n (la_n la_z))))) ?_
  refine ev_aload_n (pc := 0) (i := 0) dX10_circle_0 rfl rfl ?_
  refine ev_iconst (pc := 1) dX10_circle_1 ?_
  obtain ⟨hs1, hL⟩ := cC_un hL
  refine evB_putI (pc := 2) (c9 := 10) (k9 := 0) (kI := 0) dX10_circle_2 fl_Md_96 hs1 (by decide) (fun q hq => by cases hq; rfl) rfl rfl rfl ?_
  refine ev_puG hL (fun h2 hL => ?_)
  refine ev_aload_n (pc := 5) (i := 0) dX10_circle_5 rfl rfl ?_
  refine ev_iload_n (pc := 6) (i := 1) dX10_circle_6 rfl rfl ?_
  obtain ⟨r3, h4, hc5, hL⟩ := cl_un hL
  refine evB_callV_I (pc := 7) (M_Md_isPerson hc5) dX10_circle_7 mt_Md_isPerson st_Md_isPerson ml_Md_309 hs1 (by decide) ⟨_, rfl, rfl⟩ (Nat.le_of_ble_eq_true rfl) rfl rfl (Nat.le_trans sm_z (by decide)) ?_
  refine ev_if_eq (pc := 10) (tgt := 25) dX10_circle_10 rfl hL rfl (fun hL => ?_) (fun hL => ?_)
  · refine ev_iconst (pc := 25) dX10_circle_25 ?_
    exact evB_iret (pc := 26) dX10_circle_26 rfl hL
  · refine ev_iload_n (pc := 13) (i := 2) dX10_circle_13 rfl rfl ?_
    refine ev_i2l (pc := 14) dX10_circle_14 ?_
    refine ev_lconst (pc := 15) (x := 0) dX10_circle_15 rfl ?_
    refine ev_ldc2 (pc := 16) (x := 2) dX10_circle_16 w_l_Md_275 ?_
    obtain ⟨r6, h7, hc8, hL⟩ := cl_un hL
    refine evB_callS_I (pc := 19) (M_Md_isIn hc8) dX10_circle_19 mt_Md_isIn st_Md_isIn ml_Md_217 (Nat.le_of_ble_eq_true rfl) rfl rfl (Nat.le_trans sm_z (by decide)) ?_
    refine ev_if_ne (pc := 22) (tgt := 27) dX10_circle_22 rfl hL rfl (fun hL => ?_) (fun hL => ?_)
    · refine ev_iconst (pc := 25) dX10_circle_25 ?_
      exact evB_iret (pc := 26) dX10_circle_26 rfl hL
    · refine ev_iconst (pc := 27) dX10_circle_27 ?_
      refine ev_istore_n (pc := 28) (i := 3) dX10_circle_28 rfl (lnl_v rfl rfl) (Nat.le_of_ble_eq_true rfl) ?_
      refine ev_iconst (pc := 29) dX10_circle_29 ?_
      refine ev_istore (pc := 30) dX10_circle_30 (lnl_v rfl rfl) (Nat.le_of_ble_eq_true rfl) ?_
      exact ev_le (lvle_s (lvle_s (lvle_s (lvle_s (lvle_s lvle_z))))) (KMd_circle_b32  hL)
set_option maxHeartbeats 1000000 in
set_option maxRecDepth 100000 in
theorem M_Md_count {ω : Wd} {z : Nat → Prop} {h h' : Hp} {a0 a1 r : Int}  (hL : Md_count h a0 a1 = some (r, h')) : CtB ω N_Md_count 1 [aV ω a0, iV a1] z h (some (iV r)) h' := by
  unfold Md_count at hL
  refine Ct_of (lv := [some (aV ω a0), some (iV a1)]) (by decide) (Nat.le_trans (sl_1 (cat_aV _ _) (sl_1 (cat_iV _) sl_z)) (Nat.le_of_ble_eq_true rfl)) (la_1 (cat_aV _ _) (la_1 (cat_iV _) la_z)) ?_
  refine ev_aload_n (pc := 0) (i := 0) dX10_count_0 rfl rfl ?_
  refine ev_iconst (pc := 1) dX10_count_1 ?_
  obtain ⟨hs1, hL⟩ := cC_un hL
  refine evB_putI (pc := 2) (c9 := 10) (k9 := 0) (kI := 0) dX10_count_2 fl_Md_96 hs1 (by decide) (fun q hq => by cases hq; rfl) rfl rfl rfl ?_
  refine ev_puG hL (fun h2 hL => ?_)
  refine ev_iload_n (pc := 5) (i := 1) dX10_count_5 rfl rfl ?_
  rcases ite_un hL with ⟨hx, hL⟩ | ⟨hx3, hL⟩
  · refine evB_tswIn (pc := 6) (tgt := 72) dX10_count_6 hx (by decide) (by decide) rfl rfl ?_
    refine ev_aload_n (pc := 72) (i := 0) dX10_count_72 rfl rfl ?_
    refine ev_get (pc := 73) (c9 := 10) (k9 := 26) dX10_count_73 fl_Md_294 (by decide) hs1 gv10_26 ?_
    exact evB_iret (pc := 76) dX10_count_76 rfl hL
  · rcases ite_un hL with ⟨hx, hL⟩ | ⟨hx4, hL⟩
    · refine evB_tswIn (pc := 6) (tgt := 77) dX10_count_6 hx (by decide) (by decide) rfl rfl ?_
      refine ev_aload_n (pc := 77) (i := 0) dX10_count_77 rfl rfl ?_
      refine ev_get (pc := 78) (c9 := 10) (k9 := 27) dX10_count_78 fl_Md_297 (by decide) hs1 gv10_27 ?_
      exact evB_iret (pc := 81) dX10_count_81 rfl hL
    · rcases ite_un hL with ⟨hx, hL⟩ | ⟨hx5, hL⟩
      · refine evB_tswIn (pc := 6) (tgt := 82) dX10_count_6 hx (by decide) (by decide) rfl rfl ?_
        refine ev_aload_n (pc := 82) (i := 0) dX10_count_82 rfl rfl ?_
        refine ev_get (pc := 83) (c9 := 10) (k9 := 7) dX10_count_83 fl_Md_286 (by decide) hs1 gv10_7 ?_
        exact evB_iret (pc := 86) dX10_count_86 rfl hL
      · rcases ite_un hL with ⟨hx, hL⟩ | ⟨hx6, hL⟩
        · refine evB_tswIn (pc := 6) (tgt := 87) dX10_count_6 hx (by decide) (by decide) rfl rfl ?_
          refine ev_aload_n (pc := 87) (i := 0) dX10_count_87 rfl rfl ?_
          refine ev_get (pc := 88) (c9 := 10) (k9 := 30) dX10_count_88 fl_Md_289 (by decide) hs1 gv10_30 ?_
          exact evB_iret (pc := 91) dX10_count_91 rfl hL
        · rcases ite_un hL with ⟨hx, hL⟩ | ⟨hx7, hL⟩
          · refine evB_tswIn (pc := 6) (tgt := 92) dX10_count_6 hx (by decide) (by decide) rfl rfl ?_
            refine ev_aload_n (pc := 92) (i := 0) dX10_count_92 rfl rfl ?_
            refine ev_get (pc := 93) (c9 := 10) (k9 := 6) dX10_count_93 fl_Md_109 (by decide) hs1 gv10_6 ?_
            exact evB_iret (pc := 96) dX10_count_96 rfl hL
          · rcases ite_un hL with ⟨hx, hL⟩ | ⟨hx8, hL⟩
            · refine evB_tswIn (pc := 6) (tgt := 97) dX10_count_6 hx (by decide) (by decide) rfl rfl ?_
              refine ev_aload_n (pc := 97) (i := 0) dX10_count_97 rfl rfl ?_
              refine ev_get (pc := 98) (c9 := 10) (k9 := 34) dX10_count_98 fl_Md_67 (by decide) hs1 gv10_34 ?_
              exact evB_iret (pc := 101) dX10_count_101 rfl hL
            · rcases ite_un hL with ⟨hx, hL⟩ | ⟨hx10, hL⟩
              · refine evB_tswIn (pc := 6) (tgt := 102) dX10_count_6 hx (by decide) (by decide) rfl rfl ?_
                refine ev_aload_n (pc := 102) (i := 0) dX10_count_102 rfl rfl ?_
                refine ev_get (pc := 103) (c9 := 10) (k9 := 32) dX10_count_103 fl_Md_61 (by decide) hs1 (gv10_32 hs1) ?_
                refine ev_bipush (pc := 106) dX10_count_106 (by decide) ?_
                obtain ⟨q9a, q9b, q9c, hL⟩ := cX_un hL
                refine ev_iald (pc := 108) dX10_count_108 q9a q9b q9c ?_
                exact evB_iret (pc := 109) dX10_count_109 rfl hL
              · rcases ite_un hL with ⟨hx, hL⟩ | ⟨hx12, hL⟩
                · refine evB_tswIn (pc := 6) (tgt := 110) dX10_count_6 hx (by decide) (by decide) rfl rfl ?_
                  refine ev_aload_n (pc := 110) (i := 0) dX10_count_110 rfl rfl ?_
                  refine ev_get (pc := 111) (c9 := 10) (k9 := 32) dX10_count_111 fl_Md_61 (by decide) hs1 (gv10_32 hs1) ?_
                  refine ev_bipush (pc := 114) dX10_count_114 (by decide) ?_
                  obtain ⟨q11a, q11b, q11c, hL⟩ := cX_un hL
                  refine ev_iald (pc := 116) dX10_count_116 q11a q11b q11c ?_
                  exact evB_iret (pc := 117) dX10_count_117 rfl hL
                · rcases ite_un hL with ⟨hx, hL⟩ | ⟨hx14, hL⟩
                  · refine evB_tswIn (pc := 6) (tgt := 118) dX10_count_6 hx (by decide) (by decide) rfl rfl ?_
                    refine ev_aload_n (pc := 118) (i := 0) dX10_count_118 rfl rfl ?_
                    refine ev_get (pc := 119) (c9 := 10) (k9 := 26) dX10_count_119 fl_Md_294 (by decide) hs1 gv10_26 ?_
                    refine ev_if_ne (pc := 122) (tgt := 129) dX10_count_122 rfl hL rfl (fun hL => ?_) (fun hL => ?_)
                    · refine ev_iconst (pc := 125) dX10_count_125 ?_
                      refine ev_goto (pc := 126) (tgt := 135) dX10_count_126 rfl ?_
                      exact evB_iret (pc := 135) dX10_count_135 rfl hL
                    · refine ev_aload_n (pc := 129) (i := 0) dX10_count_129 rfl rfl ?_
                      refine ev_get (pc := 130) (c9 := 10) (k9 := 18) dX10_count_130 fl_Md_37 (by decide) hs1 (gv10_18 hs1) ?_
                      refine ev_iconst (pc := 133) dX10_count_133 ?_
                      obtain ⟨q13a, q13b, q13c, hL⟩ := cX_un hL
                      refine ev_iald (pc := 134) dX10_count_134 q13a q13b q13c ?_
                      exact evB_iret (pc := 135) dX10_count_135 rfl hL
                  · rcases ite_un hL with ⟨hx, hL⟩ | ⟨hx15, hL⟩
                    · refine evB_tswIn (pc := 6) (tgt := 136) dX10_count_6 hx (by decide) (by decide) rfl rfl ?_
                      refine ev_aload_n (pc := 136) (i := 0) dX10_count_136 rfl rfl ?_
                      refine ev_get (pc := 137) (c9 := 10) (k9 := 35) dX10_count_137 fl_Md_71 (by decide) hs1 gv10_35 ?_
                      exact evB_iret (pc := 140) dX10_count_140 rfl hL
                    · rcases ite_un hL with ⟨hx, hL⟩ | ⟨hx16, hL⟩
                      · refine evB_tswIn (pc := 6) (tgt := 141) dX10_count_6 hx (by decide) (by decide) rfl rfl ?_
                        refine ev_aload_n (pc := 141) (i := 0) dX10_count_141 rfl rfl ?_
                        refine ev_get (pc := 142) (c9 := 10) (k9 := 50) dX10_count_142 fl_Md_300 (by decide) hs1 gv10_50 ?_
                        exact evB_iret (pc := 145) dX10_count_145 rfl hL
                      · rcases ite_un hL with ⟨hx, hL⟩ | ⟨hx18, hL⟩
                        · refine evB_tswIn (pc := 6) (tgt := 146) dX10_count_6 hx (by decide) (by decide) rfl rfl ?_
                          refine ev_aload_n (pc := 146) (i := 0) dX10_count_146 rfl rfl ?_
                          refine ev_get (pc := 147) (c9 := 10) (k9 := 32) dX10_count_147 fl_Md_61 (by decide) hs1 (gv10_32 hs1) ?_
                          refine ev_bipush (pc := 150) dX10_count_150 (by decide) ?_
                          obtain ⟨q17a, q17b, q17c, hL⟩ := cX_un hL
                          refine ev_iald (pc := 152) dX10_count_152 q17a q17b q17c ?_
                          exact evB_iret (pc := 153) dX10_count_153 rfl hL
                        · rcases ite_un hL with ⟨hx, hL⟩ | ⟨hx19, hL⟩
                          · refine evB_tswIn (pc := 6) (tgt := 154) dX10_count_6 hx (by decide) (by decide) rfl rfl ?_
                            refine ev_aload_n (pc := 154) (i := 0) dX10_count_154 rfl rfl ?_
                            refine ev_get (pc := 155) (c9 := 10) (k9 := 42) dX10_count_155 fl_Md_303 (by decide) hs1 gv10_42 ?_
                            exact evB_iret (pc := 158) dX10_count_158 rfl hL
                          · refine evB_tswOut (pc := 6) (tgt := 159) dX10_count_6 (by omega) rfl ?_
                            refine ev_ldc_w (pc := 159) (x := (-1000000)) dX10_count_159 w_c_Md_428 ?_
                            exact evB_iret (pc := 162) dX10_count_162 rfl hL
