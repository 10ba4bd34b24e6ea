set_option maxHeartbeats 1000000 in
set_option maxRecDepth 100000 in
theorem KSs_oneStep_b7_body {ω : Wd} {z : Nat → Prop}  {k7 : Hp × Int × Int × Int × Int → Option (Int × Hp)} {h h' : Hp} {x0 x1 x2 x3 r : Int}  (hk7 : ∀ s o, k7 s = some o → EvB ω N_Ss_oneStep 3 (QB (some (iV o.1)) z o.2) z s.1 7 [some (aV ω s.2.1), some (aV ω s.2.2.1), some (iV s.2.2.2.1), some (iV s.2.2.2.2)] []) (hL : Ss_oneStep_b7_body  k7 h x0 x1 x2 x3 = some (r, h')) : EvB ω N_Ss_oneStep 3 (QB (some (iV r)) z h') z h 7 [some (aV ω x0), some (aV ω x1), some (iV x2), some (iV x3)] [] := by
  unfold Ss_oneStep_b7_body at hL
  refine ev_iload_n (pc := 7) (i := 3) dX6_oneStep_7 rfl rfl ?_
  refine ev_gets (pc := 8) (n := 5) (by decide) dX6_oneStep_8 fl_Ss_44 ?_
  obtain ⟨q5a, hL⟩ := cN_un hL
  refine ev_alen (pc := 11) dX6_oneStep_11 q5a ?_
  refine ev_icmp_ge (pc := 12) (tgt := 94) dX6_oneStep_12 rfl hL rfl (fun hL => ?_) (fun hL => ?_)
  · refine ev_gets (pc := 15) (n := 5) (by decide) dX6_oneStep_15 fl_Ss_44 ?_
    refine ev_iload_n (pc := 18) (i := 3) dX6_oneStep_18 rfl rfl ?_
    obtain ⟨r6, h7, hc8, hL⟩ := cl_un hL
    refine evB_callS_I (pc := 19) (M_Cc_at hc8) dX6_oneStep_19 mt_Cc_at st_Cc_at ml_Ss_19 (Nat.le_of_ble_eq_true rfl) rfl rfl (Nat.le_trans sm_z (by decide)) ?_
    refine ev_iload_n (pc := 22) (i := 2) dX6_oneStep_22 rfl rfl ?_
    refine ev_icmp_ne (pc := 23) (tgt := 88) dX6_oneStep_23 rfl hL rfl (fun hL => ?_) (fun hL => ?_)
    · refine ev_aload_n (pc := 26) (i := 1) dX6_oneStep_26 rfl rfl ?_
      refine ev_dup (pc := 27) dX6_oneStep_27 (cat_aV _ _) ?_
      obtain ⟨hs9, hL⟩ := cC_un hL
      refine ev_get (pc := 28) (c9 := 8) (k9 := 2) dX6_oneStep_28 fl_Ss_47 (by decide) hs9 gv8_2 ?_
      refine ev_iconst (pc := 31) dX6_oneStep_31 ?_
      refine ev_iadd (pc := 32) dX6_oneStep_32 ?_
      refine evB_putI (pc := 33) (c9 := 8) (k9 := 2) (kI := 2) dX6_oneStep_33 fl_Ss_47 hs9 (by decide) (fun q hq => by cases hq; rfl) rfl rfl rfl ?_
      refine ev_puG hL (fun h10 hL => ?_)
      refine ev_aload_n (pc := 36) (i := 0) dX6_oneStep_36 rfl rfl ?_
      obtain ⟨hs11, hL⟩ := cC_un hL
      refine ev_get (pc := 37) (c9 := 6) (k9 := 0) dX6_oneStep_37 fl_Ss_9 (by decide) hs11 (gv6_0 hs11) ?_
      refine ev_iconst (pc := 40) dX6_oneStep_40 ?_
      refine ev_aload_n (pc := 41) (i := 0) dX6_oneStep_41 rfl rfl ?_
      refine ev_get (pc := 42) (c9 := 6) (k9 := 1) dX6_oneStep_42 fl_Ss_15 (by decide) hs11 gv6_1 ?_
      refine ev_imul (pc := 45) dX6_oneStep_45 ?_
      refine ev_iload_n (pc := 46) (i := 3) dX6_oneStep_46 rfl rfl ?_
      obtain ⟨r12, h13, hc14, hL⟩ := cl_un hL
      refine evB_callS_V (pc := 47) (M_Cc_put hc14) dX6_oneStep_47 mt_Cc_put st_Cc_put ml_Ss_50 (Nat.le_of_ble_eq_true rfl) rfl rfl (Nat.le_trans sm_z (by decide)) ?_
      refine ev_aload_n (pc := 50) (i := 0) dX6_oneStep_50 rfl rfl ?_
      refine ev_aload_n (pc := 51) (i := 1) dX6_oneStep_51 rfl rfl ?_
      refine ev_iconst (pc := 52) dX6_oneStep_52 ?_
      refine ev_gets (pc := 53) (n := 6) (by decide) dX6_oneStep_53 fl_Ss_54 ?_
      refine ev_iload_n (pc := 56) (i := 3) dX6_oneStep_56 rfl rfl ?_
      obtain ⟨r15, h16, hc17, hL⟩ := cl_un hL
      refine evB_callS_I (pc := 57) (M_Cc_at hc17) dX6_oneStep_57 mt_Cc_at st_Cc_at ml_Ss_19 (Nat.le_of_ble_eq_true rfl) rfl rfl (Nat.le_trans (sm_1 (cat_iV _) (sm_1 (cat_aV _ _) (sm_1 (cat_aV _ _) sm_z))) (by decide)) ?_
      obtain ⟨r18, h19, hc20, hL⟩ := cl_un hL
      refine evB_callV_I (pc := 60) (M_Ss_digit hc20) dX6_oneStep_60 mt_Ss_digit st_Ss_digit ml_Ss_57 hs11 (by decide) ⟨_, rfl, rfl⟩ (Nat.le_of_ble_eq_true rfl) rfl rfl (Nat.le_trans sm_z (by decide)) ?_
      refine ev_if_eq (pc := 63) (tgt := 86) dX6_oneStep_63 rfl hL rfl (fun hL => ?_) (fun hL => ?_)
      · refine ev_iconst (pc := 86) dX6_oneStep_86 ?_
        exact evB_zret (pc := 87) dX6_oneStep_87 rfl rfl hL
      · refine ev_aload_n (pc := 66) (i := 0) dX6_oneStep_66 rfl rfl ?_
        refine ev_aload_n (pc := 67) (i := 1) dX6_oneStep_67 rfl rfl ?_
        refine ev_iconst (pc := 68) dX6_oneStep_68 ?_
        refine ev_gets (pc := 69) (n := 6) (by decide) dX6_oneStep_69 fl_Ss_54 ?_
        refine ev_iload_n (pc := 72) (i := 3) dX6_oneStep_72 rfl rfl ?_
        obtain ⟨r21, h22, hc23, hL⟩ := cl_un hL
        refine evB_callS_I (pc := 73) (M_Cc_at hc23) dX6_oneStep_73 mt_Cc_at st_Cc_at ml_Ss_19 (Nat.le_of_ble_eq_true rfl) rfl rfl (Nat.le_trans (sm_1 (cat_iV _) (sm_1 (cat_aV _ _) (sm_1 (cat_aV _ _) sm_z))) (by decide)) ?_
        obtain ⟨r24, h25, hc26, hL⟩ := cl_un hL
        refine evB_callV_I (pc := 76) (M_Ss_digit hc26) dX6_oneStep_76 mt_Ss_digit st_Ss_digit ml_Ss_57 hs11 (by decide) ⟨_, rfl, rfl⟩ (Nat.le_of_ble_eq_true rfl) rfl rfl (Nat.le_trans sm_z (by decide)) ?_
        refine ev_if_eq (pc := 79) (tgt := 86) dX6_oneStep_79 rfl hL rfl (fun hL => ?_) (fun hL => ?_)
        · refine ev_iconst (pc := 86) dX6_oneStep_86 ?_
          exact evB_zret (pc := 87) dX6_oneStep_87 rfl rfl hL
        · refine ev_iconst (pc := 82) dX6_oneStep_82 ?_
          refine ev_goto (pc := 83) (tgt := 87) dX6_oneStep_83 rfl ?_
          exact evB_zret (pc := 87) dX6_oneStep_87 rfl rfl hL
    · refine ev_iinc (pc := 88) dX6_oneStep_88 rfl (lnl_v rfl rfl) (Nat.le_of_ble_eq_true rfl) ?_
      refine ev_goto (pc := 91) (tgt := 7) dX6_oneStep_91 rfl ?_
      exact ev_le (lvle_s (lvle_s (lvle_s (lvle_s lvle_z)))) (hk7 _ _ hL)
  · refine ev_aload_n (pc := 94) (i := 1) dX6_oneStep_94 rfl rfl ?_
    obtain ⟨hs27, hL⟩ := cC_un hL
    obtain ⟨r28, h29, hc30, hL⟩ := cl_un hL
    refine evB_callV_I (pc := 95) (M_Tp_fail hc30) dX6_oneStep_95 mt_Tp_fail st_Tp_fail ml_Ss_40 hs27 (by decide) ⟨_, rfl, rfl⟩ (Nat.le_of_ble_eq_true rfl) rfl rfl (Nat.le_trans sm_z (by decide)) ?_
    exact evB_zret (pc := 98) dX6_oneStep_98 rfl rfl hL
set_option maxHeartbeats 1000000 in
set_option maxRecDepth 100000 in
theorem KSs_oneStep_b7 {ω : Wd} {z : Nat → Prop}  {h h' : Hp} {x0 x1 x2 x3 r : Int}  (hL : Ss_oneStep_b7 h x0 x1 x2 x3 = some (r, h')) : EvB ω N_Ss_oneStep 3 (QB (some (iV r)) z h') z h 7 [some (aV ω x0), some (aV ω x1), some (iV x2), some (iV x3)] [] := by
  unfold Ss_oneStep_b7 at hL
  refine itr_link (P := fun (s : Hp × Int × Int × Int × Int) (o : Int × Hp) => EvB ω N_Ss_oneStep 3 (QB (some (iV o.1)) z o.2) z s.1 7 [some (aV ω s.2.1), some (aV ω s.2.2.1), some (iV s.2.2.2.1), some (iV s.2.2.2.2)] []) ?_ _ _ _ hL
  intro k hk s o h9
  have h10 := KSs_oneStep_b7_body (ω := ω) (z := z) (k7 := k) (h := s.1) (x0 := s.2.1) (x1 := s.2.2.1) (x2 := s.2.2.2.1) (x3 := s.2.2.2.2) (r := o.1) (h' := o.2) 
  exact h10 hk h9
set_option maxHeartbeats 1000000 in
set_option maxRecDepth 100000 in
theorem M_Ss_oneStep {ω : Wd} {z : Nat → Prop} {h h' : Hp} {a0 a1 r : Int}  (hL : Ss_oneStep h a0 a1 = some (r, h')) : CtB ω N_Ss_oneStep 3 [aV ω a0, aV ω a1] z h (some (iV r)) h' := by
  unfold Ss_oneStep at hL
  refine Ct_of (lv := [some (aV ω a0), some (aV ω a1), none, none]) (by decide) (Nat.le_trans (sl_1 (cat_aV _ _) (sl_1 (cat_aV _ _) sl_z)) (Nat.le_of_ble_eq_true rfl)) (la_1 (cat_aV _ _) (la_1 (cat_aV _ _) (la_n (la_n la_z)))) ?_
  refine ev_aload_n (pc := 0) (i := 1) dX6_oneStep_0 rfl rfl ?_
  obtain ⟨hs1, hL⟩ := cC_un hL
  obtain ⟨r2, h3, hc4, hL⟩ := cl_un hL
  refine evB_callV_I (pc := 1) (M_Tp_next hc4) dX6_oneStep_1 mt_Tp_next st_Tp_next ml_Ss_32 hs1 (by decide) ⟨_, rfl, rfl⟩ (Nat.le_of_ble_eq_true rfl) rfl rfl (Nat.le_trans sm_z (by decide)) ?_
  refine ev_istore_n (pc := 4) (i := 2) dX6_oneStep_4 rfl (lnl_v (cat_aV _ _) rfl) (Nat.le_of_ble_eq_true rfl) ?_
  refine ev_iconst (pc := 5) dX6_oneStep_5 ?_
  refine ev_istore_n (pc := 6) (i := 3) dX6_oneStep_6 rfl (lnl_v rfl rfl) (Nat.le_of_ble_eq_true rfl) ?_
  exact ev_le (lvle_s (lvle_s (lvle_s (lvle_s lvle_z)))) (KSs_oneStep_b7  hL)
set_option maxHeartbeats 1000000 in
set_option maxRecDepth 100000 in
theorem KSs_read_b64 {ω : Wd} {z : Nat → Prop}  {h h' : Hp} {x1 r : Int}  (hL : Ss_read_b64 h x1 = some (r, h')) : EvB ω N_Ss_read 4 (QB (some (iV r)) z h') z h 64 [none, some (aV ω x1), none] [] := by
  unfold Ss_read_b64 at hL
  refine ev_aload_n (pc := 64) (i := 1) dX6_read_64 rfl rfl ?_
  obtain ⟨hs16, hL⟩ := cC_un hL
  obtain ⟨r17, h18, hc19, hL⟩ := cl_un hL
  refine evB_callV_I (pc := 65) (M_Tp_fail hc19) dX6_read_65 mt_Tp_fail st_Tp_fail ml_Ss_40 hs16 (by decide) ⟨_, rfl, rfl⟩ (Nat.le_of_ble_eq_true rfl) rfl rfl (Nat.le_trans sm_z (by decide)) ?_
  exact evB_zret (pc := 68) dX6_read_68 rfl rfl hL
set_option maxHeartbeats 1000000 in
set_option maxRecDepth 100000 in
theorem KSs_read_b11_body {ω : Wd} {z : Nat → Prop}  {k11 : Hp × Int × Int × Int → Option (Int × Hp)} {h h' : Hp} {x0 x1 x2 r : Int}  (hk11 : ∀ s o, k11 s = some o → EvB ω N_Ss_read 4 (QB (some (iV o.1)) z o.2) z s.1 11 [some (aV ω s.2.1), some (aV ω s.2.2.1), some (iV s.2.2.2)] []) (hL : Ss_read_b11_body  k11 h x0 x1 x2 = some (r, h')) : EvB ω N_Ss_read 4 (QB (some (iV r)) z h') z h 11 [some (aV ω x0), some (aV ω x1), some (iV x2)] [] := by
  unfold Ss_read_b11_body at hL
  refine ev_iload_n (pc := 11) (i := 2) dX6_read_11 rfl rfl ?_
  refine ev_bipush (pc := 12) dX6_read_12 (by decide) ?_
  refine ev_icmp_ge (pc := 14) (tgt := 75) dX6_read_14 rfl hL rfl (fun hL => ?_) (fun hL => ?_)
  · refine ev_aload_n (pc := 17) (i := 0) dX6_read_17 rfl rfl ?_
    refine ev_aload_n (pc := 18) (i := 1) dX6_read_18 rfl rfl ?_
    obtain ⟨hs7, hL⟩ := cC_un hL
    obtain ⟨r8, h9, hc10, hL⟩ := cl_un hL
    refine evB_callV_I (pc := 19) (M_Ss_oneStep hc10) dX6_read_19 mt_Ss_oneStep st_Ss_oneStep ml_Ss_28 hs7 (by decide) ⟨_, rfl, rfl⟩ (Nat.le_of_ble_eq_true rfl) rfl rfl (Nat.le_trans sm_z (by decide)) ?_
    refine ev_if_ne (pc := 22) (tgt := 27) dX6_read_22 rfl hL rfl (fun hL => ?_) (fun hL => ?_)
    · refine ev_iconst (pc := 25) dX6_read_25 ?_
      exact evB_zret (pc := 26) dX6_read_26 rfl rfl hL
    · refine ev_aload_n (pc := 27) (i := 0) dX6_read_27 rfl rfl ?_
      refine ev_dup (pc := 28) dX6_read_28 (cat_aV _ _) ?_
      refine ev_get (pc := 29) (c9 := 6) (k9 := 1) dX6_read_29 fl_Ss_15 (by decide) hs7 gv6_1 ?_
      refine ev_iconst (pc := 32) dX6_read_32 ?_
      refine ev_iadd (pc := 33) dX6_read_33 ?_
      refine evB_putI (pc := 34) (c9 := 6) (k9 := 1) (kI := 1) dX6_read_34 fl_Ss_15 hs7 (by decide) (fun q hq => by cases hq; rfl) rfl rfl rfl ?_
      refine ev_puG hL (fun h11 hL => ?_)
      refine ev_aload_n (pc := 37) (i := 1) dX6_read_37 rfl rfl ?_
      obtain ⟨hs12, hL⟩ := cC_un hL
      obtain ⟨r13, h14, hc15, hL⟩ := cl_un hL
      refine evB_callV_I (pc := 38) (M_Tp_next hc15) dX6_read_38 mt_Tp_next st_Tp_next ml_Ss_32 hs12 (by decide) ⟨_, rfl, rfl⟩ (Nat.le_of_ble_eq_true rfl) rfl rfl (Nat.le_trans sm_z (by decide)) ?_
      refine ev_if_ne (pc := 41) (tgt := 46) dX6_read_41 rfl hL rfl (fun hL => ?_) (fun hL => ?_)
      · refine ev_iconst (pc := 44) dX6_read_44 ?_
        exact evB_zret (pc := 45) dX6_read_45 rfl rfl hL
      · refine ev_aload_n (pc := 46) (i := 0) dX6_read_46 rfl rfl ?_
        refine ev_get (pc := 47) (c9 := 6) (k9 := 1) dX6_read_47 fl_Ss_15 (by decide) hs7 gv6_1 ?_
        refine ev_bipush (pc := 50) dX6_read_50 (by decide) ?_
        refine ev_icmp_eq (pc := 52) (tgt := 64) dX6_read_52 rfl hL rfl (fun hL => ?_) (fun hL => ?_)
        · exact ev_le (lvle_n (lvle_s (lvle_n lvle_z))) (KSs_read_b64  hL)
        · refine ev_aload_n (pc := 55) (i := 1) dX6_read_55 rfl rfl ?_
          refine ev_bipush (pc := 56) dX6_read_56 (by decide) ?_
          obtain ⟨r20, h21, hc22, hL⟩ := cl_un hL
          refine evB_callV_I (pc := 58) (M_Tp_need hc22) dX6_read_58 mt_Tp_need st_Tp_need ml_Ss_36 hs12 (by decide) ⟨_, rfl, rfl⟩ (Nat.le_of_ble_eq_true rfl) rfl rfl (Nat.le_trans sm_z (by decide)) ?_
          refine ev_if_ne (pc := 61) (tgt := 69) dX6_read_61 rfl hL rfl (fun hL => ?_) (fun hL => ?_)
          · exact ev_le (lvle_n (lvle_s (lvle_n lvle_z))) (KSs_read_b64  hL)
          · refine ev_iinc (pc := 69) dX6_read_69 rfl (lnl_v (cat_aV _ _) rfl) (Nat.le_of_ble_eq_true rfl) ?_
            refine ev_goto (pc := 72) (tgt := 11) dX6_read_72 rfl ?_
            exact ev_le (lvle_s (lvle_s (lvle_s lvle_z))) (hk11 _ _ hL)
  · refine ev_aload_n (pc := 75) (i := 1) dX6_read_75 rfl rfl ?_
    obtain ⟨hs23, hL⟩ := cC_un hL
    obtain ⟨r24, h25, hc26, hL⟩ := cl_un hL
    refine evB_callV_I (pc := 76) (M_Tp_fail hc26) dX6_read_76 mt_Tp_fail st_Tp_fail ml_Ss_40 hs23 (by decide) ⟨_, rfl, rfl⟩ (Nat.le_of_ble_eq_true rfl) rfl rfl (Nat.le_trans sm_z (by decide)) ?_
    exact evB_zret (pc := 79) dX6_read_79 rfl rfl hL
set_option maxHeartbeats 1000000 in
set_option maxRecDepth 100000 in
theorem KSs_read_b11 {ω : Wd} {z : Nat → Prop}  {h h' : Hp} {x0 x1 x2 r : Int}  (hL : Ss_read_b11 h x0 x1 x2 = some (r, h')) : EvB ω N_Ss_read 4 (QB (some (iV r)) z h') z h 11 [some (aV ω x0), some (aV ω x1), some (iV x2)] [] := by
  unfold Ss_read_b11 at hL
  refine itr_link (P := fun (s : Hp × Int × Int × Int) (o : Int × Hp) => EvB ω N_Ss_read 4 (QB (some (iV o.1)) z o.2) z s.1 11 [some (aV ω s.2.1), some (aV ω s.2.2.1), some (iV s.2.2.2)] []) ?_ _ _ _ hL
  intro k hk s o h9
  have h10 := KSs_read_b11_body (ω := ω) (z := z) (k11 := k) (h := s.1) (x0 := s.2.1) (x1 := s.2.2.1) (x2 := s.2.2.2) (r := o.1) (h' := o.2) 
  exact h10 hk h9
set_option maxHeartbeats 1000000 in
set_option maxRecDepth 100000 in
theorem M_Ss_read {ω : Wd} {z : Nat → Prop} {h h' : Hp} {a0 a1 r : Int}  (hL : Ss_read h a0 a1 = some (r, h')) : CtB ω N_Ss_read 4 [aV ω a0, aV ω a1] z h (some (iV r)) h' := by
  unfold Ss_read at hL
  refine Ct_of (lv := [some (aV ω a0), some (aV ω a1), none]) (by decide) (Nat.le_trans (sl_1 (cat_aV _ _) (sl_1 (cat_aV _ _) sl_z)) (Nat.le_of_ble_eq_true rfl)) (la_1 (cat_aV _ _) (la_1 (cat_aV _ _) (la_n la_z))) ?_
  refine ev_aload_n (pc := 0) (i := 0) dX6_read_0 rfl rfl ?_
  refine ev_iconst (pc := 1) dX6_read_1 ?_
  obtain ⟨hs1, hL⟩ := cC_un hL
  refine evB_putI (pc := 2) (c9 := 6) (k9 := 1) (kI := 1) dX6_read_2 fl_Ss_15 hs1 (by decide) (fun q hq => by cases hq; rfl) rfl rfl rfl ?_
  refine ev_puG hL (fun h2 hL => ?_)
  refine ev_aload_n (pc := 5) (i := 1) dX6_read_5 rfl rfl ?_
  obtain ⟨hs3, hL⟩ := cC_un hL
  obtain ⟨r4, h5, hc6, hL⟩ := cl_un hL
  refine evB_callV_V (pc := 6) (M_Tp_start hc6) dX6_read_6 mt_Tp_start st_Tp_start ml_Ss_23 hs3 (by decide) ⟨_, rfl, rfl⟩ (Nat.le_of_ble_eq_true rfl) rfl rfl (Nat.le_trans sm_z (by decide)) ?_
  refine ev_iconst (pc := 9) dX6_read_9 ?_
  refine ev_istore_n (pc := 10) (i := 2) dX6_read_10 rfl (lnl_v (cat_aV _ _) rfl) (Nat.le_of_ble_eq_true rfl) ?_
  exact ev_le (lvle_s (lvle_s (lvle_s lvle_z))) (KSs_read_b11  hL)
set_option maxHeartbeats 1000000 in
set_option maxRecDepth 100000 in
theorem M_Cc_readAs {ω : Wd} {z : Nat → Prop} {h h' : Hp} {a0 a1 r : Int}  (hL : Cc_readAs h a0 a1 = some (r, h')) : CtB ω N_Cc_readAs 846 [aV ω a0, iV a1] z h (some (iV r)) h' := by
  unfold Cc_readAs at hL
  refine Ct_of (lv := [some (aV ω a0), some (iV a1)]) (by decide) (Nat.le_trans (sl_1 (cat_aV _ _) (sl_1 (cat_iV _) sl_z)) (Nat.le_of_ble_eq_true rfl)) (la_1 (cat_aV _ _) (la_1 (cat_iV _) la_z)) ?_
  refine ev_iload_n (pc := 0) (i := 1) dX9_readAs_0 rfl rfl ?_
  rcases ite_un hL with ⟨hx, hL⟩ | ⟨hx6, hL⟩
  · refine evB_lsw (pc := 1) (tgt := 28) dX9_readAs_1 (by decide) (by rw [hx]) rfl ?_
    refine ev_aload_n (pc := 28) (i := 0) dX9_readAs_28 rfl rfl ?_
    obtain ⟨hs1, hL⟩ := cC_un hL
    refine ev_get (pc := 29) (c9 := 9) (k9 := 2) dX9_readAs_29 fl_Cc_23 (by decide) hs1 gv9_2 ?_
    refine ev_aload_n (pc := 32) (i := 0) dX9_readAs_32 rfl rfl ?_
    refine ev_get (pc := 33) (c9 := 9) (k9 := 0) dX9_readAs_33 fl_Cc_10 (by decide) hs1 (gv9_0 hs1) ?_
    obtain ⟨hs2, hL⟩ := cC_un hL
    obtain ⟨r3, h4, hc5, hL⟩ := cl_un hL
    refine evB_callV_I (pc := 36) (M_Cy_read hc5) dX9_readAs_36 mt_Cy_read st_Cy_read ml_Cc_396 hs2 (by decide) ⟨_, rfl, rfl⟩ (Nat.le_of_ble_eq_true rfl) rfl rfl (Nat.le_trans sm_z (by decide)) ?_
    exact evB_zret (pc := 39) dX9_readAs_39 rfl rfl hL
  · rcases ite_un hL with ⟨hx, hL⟩ | ⟨hx15, hL⟩
    · refine evB_lsw (pc := 1) (tgt := 40) dX9_readAs_1 (by decide) (by rw [hx]) rfl ?_
      refine ev_aload_n (pc := 40) (i := 0) dX9_readAs_40 rfl rfl ?_
      refine ev_aload_n (pc := 41) (i := 0) dX9_readAs_41 rfl rfl ?_
      obtain ⟨hs7, hL⟩ := cC_un hL
      refine ev_get (pc := 42) (c9 := 9) (k9 := 5) dX9_readAs_42 fl_Cc_38 (by decide) hs7 gv9_5 ?_
      obtain ⟨r8, h9, hc10, hL⟩ := cl_un hL
      refine evB_callV_A (pc := 45) (M_Cc_lawAt hc10) dX9_readAs_45 mt_Cc_lawAt st_Cc_lawAt ml_Cc_399 hs7 (by decide) ⟨_, rfl, rfl⟩ (Nat.le_of_ble_eq_true rfl) rfl rfl (Nat.le_trans sm_z (by decide)) ?_
      refine ev_aload_n (pc := 48) (i := 0) dX9_readAs_48 rfl rfl ?_
      refine ev_get (pc := 49) (c9 := 9) (k9 := 0) dX9_readAs_49 fl_Cc_10 (by decide) hs7 (gv9_0 hs7) ?_
      obtain ⟨hs11, hL⟩ := cC_un hL
      obtain ⟨r12, h13, hc14, hL⟩ := cl_un hL
      refine evB_callV_I (pc := 52) (M_Lw_read hc14) dX9_readAs_52 mt_Lw_read st_Lw_read ml_Cc_403 hs11 (by decide) ⟨_, rfl, rfl⟩ (Nat.le_of_ble_eq_true rfl) rfl rfl (Nat.le_trans sm_z (by decide)) ?_
      exact evB_zret (pc := 55) dX9_readAs_55 rfl rfl hL
    · refine evB_lsw (pc := 1) (tgt := 56) (off := 55) dX9_readAs_1 (by decide) (by simp [Op.lookupswitch.offset, Ne.symm hx6, Ne.symm hx15]) rfl ?_
      refine ev_aload_n (pc := 56) (i := 0) dX9_readAs_56 rfl rfl ?_
      refine ev_aload_n (pc := 57) (i := 0) dX9_readAs_57 rfl rfl ?_
      obtain ⟨hs16, hL⟩ := cC_un hL
      refine ev_get (pc := 58) (c9 := 9) (k9 := 7) dX9_readAs_58 fl_Cc_45 (by decide) hs16 gv9_7 ?_
      obtain ⟨r17, h18, hc19, hL⟩ := cl_un hL
      refine evB_callV_A (pc := 61) (M_Cc_sessionAt hc19) dX9_readAs_61 mt_Cc_sessionAt st_Cc_sessionAt ml_Cc_250 hs16 (by decide) ⟨_, rfl, rfl⟩ (Nat.le_of_ble_eq_true rfl) rfl rfl (Nat.le_trans sm_z (by decide)) ?_
      refine ev_aload_n (pc := 64) (i := 0) dX9_readAs_64 rfl rfl ?_
      refine ev_get (pc := 65) (c9 := 9) (k9 := 0) dX9_readAs_65 fl_Cc_10 (by decide) hs16 (gv9_0 hs16) ?_
      obtain ⟨hs20, hL⟩ := cC_un hL
      obtain ⟨r21, h22, hc23, hL⟩ := cl_un hL
      refine evB_callV_I (pc := 68) (M_Ss_read hc23) dX9_readAs_68 mt_Ss_read st_Ss_read ml_Cc_404 hs20 (by decide) ⟨_, rfl, rfl⟩ (Nat.le_of_ble_eq_true rfl) rfl rfl (Nat.le_trans sm_z (by decide)) ?_
      exact evB_zret (pc := 71) dX9_readAs_71 rfl rfl hL
set_option maxHeartbeats 1000000 in
set_option maxRecDepth 100000 in
theorem M_Cc_fault {ω : Wd} {z : Nat → Prop} {h h' : Hp} {a0 a1 r : Int}  (hL : Cc_fault h a0 a1 = some (r, h')) : CtB ω N_Cc_fault 847 [aV ω a0, iV a1] z h (some (iV r)) h' := by
  unfold Cc_fault at hL
  refine Ct_of (lv := [some (aV ω a0), some (iV a1)]) (by decide) (Nat.le_trans (sl_1 (cat_aV _ _) (sl_1 (cat_iV _) sl_z)) (Nat.le_of_ble_eq_true rfl)) (la_1 (cat_aV _ _) (la_1 (cat_iV _) la_z)) ?_
  refine ev_iload_n (pc := 0) (i := 1) dX9_fault_0 rfl rfl ?_
  refine ev_if_lt (pc := 1) (tgt := 9) dX9_fault_1 rfl hL rfl (fun hL => ?_) (fun hL => ?_)
  · refine ev_bipush (pc := 9) dX9_fault_9 (by decide) ?_
    exact evB_iret (pc := 11) dX9_fault_11 rfl hL
  · refine ev_iload_n (pc := 4) (i := 1) dX9_fault_4 rfl rfl ?_
    refine ev_iconst (pc := 5) dX9_fault_5 ?_
    refine ev_icmp_le (pc := 6) (tgt := 12) dX9_fault_6 rfl hL rfl (fun hL => ?_) (fun hL => ?_)
    · refine ev_bipush (pc := 9) dX9_fault_9 (by decide) ?_
      exact evB_iret (pc := 11) dX9_fault_11 rfl hL
    · refine ev_aload_n (pc := 12) (i := 0) dX9_fault_12 rfl rfl ?_
      refine ev_iload_n (pc := 13) (i := 1) dX9_fault_13 rfl rfl ?_
      obtain ⟨hs1, hL⟩ := cC_un hL
      obtain ⟨r2, h3, hc4, hL⟩ := cl_un hL
      refine evB_callV_I (pc := 14) (M_Cc_readAs hc4) dX9_fault_14 mt_Cc_readAs st_Cc_readAs ml_Cc_121 hs1 (by decide) ⟨_, rfl, rfl⟩ (Nat.le_of_ble_eq_true rfl) rfl rfl (Nat.le_trans sm_z (by decide)) ?_
      refine ev_if_eq (pc := 17) (tgt := 24) dX9_fault_17 rfl hL rfl (fun hL => ?_) (fun hL => ?_)
      · refine ev_aload_n (pc := 24) (i := 0) dX9_fault_24 rfl rfl ?_
        refine ev_get (pc := 25) (c9 := 9) (k9 := 0) dX9_fault_25 fl_Cc_10 (by decide) hs1 (gv9_0 hs1) ?_
        obtain ⟨hs5, hL⟩ := cC_un hL
        refine ev_get (pc := 28) (c9 := 8) (k9 := 3) dX9_fault_28 fl_Cc_125 (by decide) hs5 gv8_3 ?_
        exact evB_iret (pc := 31) dX9_fault_31 rfl hL
      · refine ev_iconst (pc := 20) dX9_fault_20 ?_
        refine ev_goto (pc := 21) (tgt := 31) dX9_fault_21 rfl ?_
        exact evB_iret (pc := 31) dX9_fault_31 rfl hL
set_option maxHeartbeats 1000000 in
set_option maxRecDepth 100000 in
theorem KTp_add_b3_body {ω : Wd} {z : Nat → Prop}  {k3 : Hp × Int × Int × Int → Option (Int × Hp)} {h h' : Hp} {x0 x1 x2 r : Int}  (hk3 : ∀ s o, k3 s = some o → EvB ω N_Tp_add 2 (QB none z o.2) z s.1 3 [some (aV ω s.2.1), some (iV s.2.2.1), some (iV s.2.2.2), none] []) (hL : Tp_add_b3_body  k3 h x0 x1 x2 = some (r, h')) : EvB ω N_Tp_add 2 (QB none z h') z h 3 [some (aV ω x0), some (iV x1), some (iV x2), none] [] := by
  unfold Tp_add_b3_body at hL
  refine ev_iload_n (pc := 3) (i := 2) dX8_add_3 rfl rfl ?_
  refine ev_if_lt (pc := 4) (tgt := 57) dX8_add_4 rfl hL rfl (fun hL => ?_) (fun hL => ?_)
  · exact evB_vret (pc := 57) dX8_add_57 rfl hL
  · refine ev_iload_n (pc := 7) (i := 1) dX8_add_7 rfl rfl ?_
    refine ev_iload_n (pc := 8) (i := 2) dX8_add_8 rfl rfl ?_
    refine ev_ishr (pc := 9) dX8_add_9 ?_
    refine ev_sipush (pc := 10) dX8_add_10 (by decide) ?_
    refine ev_iand (pc := 13) dX8_add_13 ?_
    refine ev_bdI hL (fun v1 hL => ?_)
    refine ev_istore_n (pc := 14) (i := 3) dX8_add_14 rfl (lnl_v rfl rfl) (Nat.le_of_ble_eq_true rfl) ?_
    refine ev_iload_n (pc := 15) (i := 3) dX8_add_15 rfl rfl ?_
    refine ev_if_eq (pc := 16) (tgt := 51) dX8_add_16 rfl hL rfl (fun hL => ?_) (fun hL => ?_)
    · refine ev_iinc (pc := 51) dX8_add_51 rfl (lnl_v rfl rfl) (Nat.le_of_ble_eq_true rfl) ?_
      refine ev_goto (pc := 54) (tgt := 3) dX8_add_54 rfl ?_
      exact ev_le (lvle_s (lvle_s (lvle_s (lvle_n lvle_z)))) (hk3 _ _ hL)
    · refine ev_aload_n (pc := 19) (i := 0) dX8_add_19 rfl rfl ?_
      obtain ⟨hs2, hL⟩ := cC_un hL
      refine ev_get (pc := 20) (c9 := 8) (k9 := 1) dX8_add_20 fl_Tp_15 (by decide) hs2 gv8_1 ?_
      refine ev_sipush (pc := 23) dX8_add_23 (by decide) ?_
      refine ev_icmp_ge (pc := 26) (tgt := 51) dX8_add_26 rfl hL rfl (fun hL => ?_) (fun hL => ?_)
      · refine ev_aload_n (pc := 29) (i := 0) dX8_add_29 rfl rfl ?_
        refine ev_get (pc := 30) (c9 := 8) (k9 := 0) dX8_add_30 fl_Tp_11 (by decide) hs2 (gv8_0 hs2) ?_
        refine ev_aload_n (pc := 33) (i := 0) dX8_add_33 rfl rfl ?_
        refine ev_get (pc := 34) (c9 := 8) (k9 := 1) dX8_add_34 fl_Tp_15 (by decide) hs2 gv8_1 ?_
        refine ev_iload_n (pc := 37) (i := 3) dX8_add_37 rfl rfl ?_
        obtain ⟨r3, h4, hc5, hL⟩ := cl_un hL
        refine evB_callS_V (pc := 38) (M_Cc_put hc5) dX8_add_38 mt_Cc_put st_Cc_put ml_Tp_25 (Nat.le_of_ble_eq_true rfl) rfl rfl (Nat.le_trans sm_z (by decide)) ?_
        refine ev_aload_n (pc := 41) (i := 0) dX8_add_41 rfl rfl ?_
        refine ev_dup (pc := 42) dX8_add_42 (cat_aV _ _) ?_
        refine ev_get (pc := 43) (c9 := 8) (k9 := 1) dX8_add_43 fl_Tp_15 (by decide) hs2 gv8_1 ?_
        refine ev_iconst (pc := 46) dX8_add_46 ?_
        refine ev_iadd (pc := 47) dX8_add_47 ?_
        refine evB_putI (pc := 48) (c9 := 8) (k9 := 1) (kI := 1) dX8_add_48 fl_Tp_15 hs2 (by decide) (fun q hq => by cases hq; rfl) rfl rfl rfl ?_
        refine ev_puG hL (fun h6 hL => ?_)
        refine ev_iinc (pc := 51) dX8_add_51 rfl (lnl_v rfl rfl) (Nat.le_of_ble_eq_true rfl) ?_
        refine ev_goto (pc := 54) (tgt := 3) dX8_add_54 rfl ?_
        exact ev_le (lvle_s (lvle_s (lvle_s (lvle_n lvle_z)))) (hk3 _ _ hL)
      · refine ev_iinc (pc := 51) dX8_add_51 rfl (lnl_v rfl rfl) (Nat.le_of_ble_eq_true rfl) ?_
        refine ev_goto (pc := 54) (tgt := 3) dX8_add_54 rfl ?_
        exact ev_le (lvle_s (lvle_s (lvle_s (lvle_n lvle_z)))) (hk3 _ _ hL)
set_option maxHeartbeats 1000000 in
set_option maxRecDepth 100000 in
theorem KTp_add_b3 {ω : Wd} {z : Nat → Prop}  {h h' : Hp} {x0 x1 x2 r : Int}  (hL : Tp_add_b3 h x0 x1 x2 = some (r, h')) : EvB ω N_Tp_add 2 (QB none z h') z h 3 [some (aV ω x0), some (iV x1), some (iV x2), none] [] := by
  unfold Tp_add_b3 at hL
  refine itr_link (P := fun (s : Hp × Int × Int × Int) (o : Int × Hp) => EvB ω N_Tp_add 2 (QB none z o.2) z s.1 3 [some (aV ω s.2.1), some (iV s.2.2.1), some (iV s.2.2.2), none] []) ?_ _ _ _ hL
  intro k hk s o h9
  have h10 := KTp_add_b3_body (ω := ω) (z := z) (k3 := k) (h := s.1) (x0 := s.2.1) (x1 := s.2.2.1) (x2 := s.2.2.2) (r := o.1) (h' := o.2) 
  exact h10 hk h9
set_option maxHeartbeats 1000000 in
set_option maxRecDepth 100000 in
theorem M_Tp_add {ω : Wd} {z : Nat → Prop} {h h' : Hp} {a0 a1 r : Int}  (hL : Tp_add h a0 a1 = some (r, h')) : CtB ω N_Tp_add 2 [aV ω a0, iV a1] z h none h' := by
  unfold Tp_add at hL
  refine Ct_of (lv := [some (aV ω a0), some (iV a1), none, none]) (by decide) (Nat.le_trans (sl_1 (cat_aV _ _) (sl_1 (cat_iV _) sl_z)) (Nat.le_of_ble_eq_true rfl)) (la_1 (cat_aV _ _) (la_1 (cat_iV _) (la_n (la_n la_z)))) ?_
  refine ev_bipush (pc := 0) dX8_add_0 (by decide) ?_
  refine ev_istore_n (pc := 2) (i := 2) dX8_add_2 rfl (lnl_v rfl rfl) (Nat.le_of_ble_eq_true rfl) ?_
  exact ev_le (lvle_s (lvle_s (lvle_s (lvle_n lvle_z)))) (KTp_add_b3  hL)
set_option maxHeartbeats 1000000 in
set_option maxRecDepth 100000 in
theorem KTp_bytesOf_b5_body {ω : Wd} {z : Nat → Prop}  {k5 : Hp × Int × Int × Int → Option (Int × Hp)} {h h' : Hp} {x0 x1 x2 r : Int}  (hk5 : ∀ s o, k5 s = some o → EvB ω N_Tp_bytesOf 1 (QB (some (iV o.1)) z o.2) z s.1 5 [some (iV s.2.1), some (iV s.2.2.1), some (iV s.2.2.2)] []) (hL : Tp_bytesOf_b5_body  k5 h x0 x1 x2 = some (r, h')) : EvB ω N_Tp_bytesOf 1 (QB (some (iV r)) z h') z h 5 [some (iV x0), some (iV x1), some (iV x2)] [] := by
  unfold Tp_bytesOf_b5_body at hL
  refine ev_iload_n (pc := 5) (i := 2) dX8_bytesOf_5 rfl rfl ?_
  refine ev_if_lt (pc := 6) (tgt := 33) dX8_bytesOf_6 rfl hL rfl (fun hL => ?_) (fun hL => ?_)
  · refine ev_iload_n (pc := 33) (i := 1) dX8_bytesOf_33 rfl rfl ?_
    exact evB_iret (pc := 34) dX8_bytesOf_34 rfl hL
  · refine ev_iload_n (pc := 9) (i := 1) dX8_bytesOf_9 rfl rfl ?_
    refine ev_iload_n (pc := 10) (i := 0) dX8_bytesOf_10 rfl rfl ?_
    refine ev_iload_n (pc := 11) (i := 2) dX8_bytesOf_11 rfl rfl ?_
    refine ev_ishr (pc := 12) dX8_bytesOf_12 ?_
    refine ev_sipush (pc := 13) dX8_bytesOf_13 (by decide) ?_
    refine ev_iand (pc := 16) dX8_bytesOf_16 ?_
    refine ev_if_ne (pc := 17) (tgt := 24) dX8_bytesOf_17 rfl hL rfl (fun hL => ?_) (fun hL => ?_)
    · refine ev_iconst (pc := 20) dX8_bytesOf_20 ?_
      refine ev_goto (pc := 21) (tgt := 25) dX8_bytesOf_21 rfl ?_
      refine ev_iadd (pc := 25) dX8_bytesOf_25 ?_
      refine ev_bdI hL (fun v1 hL => ?_)
      refine ev_istore_n (pc := 26) (i := 1) dX8_bytesOf_26 rfl (lnl_v rfl rfl) (Nat.le_of_ble_eq_true rfl) ?_
      refine ev_iinc (pc := 27) dX8_bytesOf_27 rfl (lnl_v rfl rfl) (Nat.le_of_ble_eq_true rfl) ?_
      refine ev_goto (pc := 30) (tgt := 5) dX8_bytesOf_30 rfl ?_
      exact ev_le (lvle_s (lvle_s (lvle_s lvle_z))) (hk5 _ _ hL)
    · refine ev_iconst (pc := 24) dX8_bytesOf_24 ?_
      refine ev_iadd (pc := 25) dX8_bytesOf_25 ?_
      refine ev_bdI hL (fun v2 hL => ?_)
      refine ev_istore_n (pc := 26) (i := 1) dX8_bytesOf_26 rfl (lnl_v rfl rfl) (Nat.le_of_ble_eq_true rfl) ?_
      refine ev_iinc (pc := 27) dX8_bytesOf_27 rfl (lnl_v rfl rfl) (Nat.le_of_ble_eq_true rfl) ?_
      refine ev_goto (pc := 30) (tgt := 5) dX8_bytesOf_30 rfl ?_
      exact ev_le (lvle_s (lvle_s (lvle_s lvle_z))) (hk5 _ _ hL)
set_option maxHeartbeats 1000000 in
set_option maxRecDepth 100000 in
theorem KTp_bytesOf_b5 {ω : Wd} {z : Nat → Prop}  {h h' : Hp} {x0 x1 x2 r : Int}  (hL : Tp_bytesOf_b5 h x0 x1 x2 = some (r, h')) : EvB ω N_Tp_bytesOf 1 (QB (some (iV r)) z h') z h 5 [some (iV x0), some (iV x1), some (iV x2)] [] := by
  unfold Tp_bytesOf_b5 at hL
  refine itr_link (P := fun (s : Hp × Int × Int × Int) (o : Int × Hp) => EvB ω N_Tp_bytesOf 1 (QB (some (iV o.1)) z o.2) z s.1 5 [some (iV s.2.1), some (iV s.2.2.1), some (iV s.2.2.2)] []) ?_ _ _ _ hL
  intro k hk s o h9
  have h10 := KTp_bytesOf_b5_body (ω := ω) (z := z) (k5 := k) (h := s.1) (x0 := s.2.1) (x1 := s.2.2.1) (x2 := s.2.2.2) (r := o.1) (h' := o.2) 
  exact h10 hk h9
set_option maxHeartbeats 1000000 in
set_option maxRecDepth 100000 in
theorem M_Tp_bytesOf {ω : Wd} {z : Nat → Prop} {h h' : Hp} {a0 r : Int}  (hL : Tp_bytesOf h a0 = some (r, h')) : CtB ω N_Tp_bytesOf 1 [iV a0] z h (some (iV r)) h' := by
  unfold Tp_bytesOf at hL
  refine Ct_of (lv := [some (iV a0), none, none]) (by decide) (Nat.le_trans (sl_1 (cat_iV _) sl_z) (Nat.le_of_ble_eq_true rfl)) (la_1 (cat_iV _) (la_n (la_n la_z))) ?_
  refine ev_iconst (pc := 0) dX8_bytesOf_0 ?_
  refine ev_istore_n (pc := 1) (i := 1) dX8_bytesOf_1 rfl (lnl_v rfl rfl) (Nat.le_of_ble_eq_true rfl) ?_
  refine ev_bipush (pc := 2) dX8_bytesOf_2 (by decide) ?_
  refine ev_istore_n (pc := 4) (i := 2) dX8_bytesOf_4 rfl (lnl_v rfl rfl) (Nat.le_of_ble_eq_true rfl) ?_
  exact ev_le (lvle_s (lvle_s (lvle_s lvle_z))) (KTp_bytesOf_b5  hL)
set_option maxHeartbeats 1000000 in
set_option maxRecDepth 100000 in
theorem M_Cc_feed {ω : Wd} {z : Nat → Prop} {h h' : Hp} {a0 a1 a2 a3 a4 a5 r : Int}  (hL : Cc_feed h a0 a1 a2 a3 a4 a5 = some (r, h')) : CtB ω N_Cc_feed 3 [aV ω a0, iV a1, iV a2, iV a3, iV a4, iV a5] z h (some (iV r)) h' := by
  unfold Cc_feed at hL
  refine Ct_of (lv := [some (aV ω a0), some (iV a1), some (iV a2), some (iV a3), some (iV a4), some (iV a5), none]) (by decide) (Nat.le_trans (sl_1 (cat_aV _ _) (sl_1 (cat_iV _) (sl_1 (cat_iV _) (sl_1 (cat_iV _) (sl_1 (cat_iV _) (sl_1 (cat_iV _) sl_z)))))) (Nat.le_of_ble_eq_true rfl)) (la_1 (cat_aV _ _) (la_1 (cat_iV _) (la_1 (cat_iV _) (la_1 (cat_iV _) (la_1 (cat_iV _) (la_1 (cat_iV _) (la_n la_z))))))) ?_
  refine ev_iload_n (pc := 0) (i := 1) dX9_feed_0 rfl rfl ?_
  obtain ⟨r1, h2, hc3, hL⟩ := cl_un hL
  refine evB_callS_I (pc := 1) (M_Tp_bytesOf hc3) dX9_feed_1 mt_Tp_bytesOf st_Tp_bytesOf ml_Cc_110 (Nat.le_of_ble_eq_true rfl) rfl rfl (Nat.le_trans sm_z (by decide)) ?_
  refine ev_iload_n (pc := 4) (i := 2) dX9_feed_4 rfl rfl ?_
  obtain ⟨r4, h5, hc6, hL⟩ := cl_un hL
  refine evB_callS_I (pc := 5) (M_Tp_bytesOf hc6) dX9_feed_5 mt_Tp_bytesOf st_Tp_bytesOf ml_Cc_110 (Nat.le_of_ble_eq_true rfl) rfl rfl (Nat.le_trans (sm_1 (cat_iV _) sm_z) (by decide)) ?_
  refine ev_iadd (pc := 8) dX9_feed_8 ?_
  refine ev_iload_n (pc := 9) (i := 3) dX9_feed_9 rfl rfl ?_
  obtain ⟨r7, h8, hc9, hL⟩ := cl_un hL
  refine evB_callS_I (pc := 10) (M_Tp_bytesOf hc9) dX9_feed_10 mt_Tp_bytesOf st_Tp_bytesOf ml_Cc_110 (Nat.le_of_ble_eq_true rfl) rfl rfl (Nat.le_trans (sm_1 (cat_iV _) sm_z) (by decide)) ?_
  refine ev_iadd (pc := 13) dX9_feed_13 ?_
  refine ev_iload (pc := 14) dX9_feed_14 rfl ?_
  obtain ⟨r10, h11, hc12, hL⟩ := cl_un hL
  refine evB_callS_I (pc := 16) (M_Tp_bytesOf hc12) dX9_feed_16 mt_Tp_bytesOf st_Tp_bytesOf ml_Cc_110 (Nat.le_of_ble_eq_true rfl) rfl rfl (Nat.le_trans (sm_1 (cat_iV _) sm_z) (by decide)) ?_
  refine ev_iadd (pc := 19) dX9_feed_19 ?_
  refine ev_iload (pc := 20) dX9_feed_20 rfl ?_
  obtain ⟨r13, h14, hc15, hL⟩ := cl_un hL
  refine evB_callS_I (pc := 22) (M_Tp_bytesOf hc15) dX9_feed_22 mt_Tp_bytesOf st_Tp_bytesOf ml_Cc_110 (Nat.le_of_ble_eq_true rfl) rfl rfl (Nat.le_trans (sm_1 (cat_iV _) sm_z) (by decide)) ?_
  refine ev_iadd (pc := 25) dX9_feed_25 ?_
  refine ev_bdI hL (fun v16 hL => ?_)
  refine ev_istore (pc := 26) dX9_feed_26 (lnl_v rfl rfl) (Nat.le_of_ble_eq_true rfl) ?_
  refine ev_aload_n (pc := 28) (i := 0) dX9_feed_28 rfl rfl ?_
  obtain ⟨hs17, hL⟩ := cC_un hL
  refine ev_get (pc := 29) (c9 := 9) (k9 := 0) dX9_feed_29 fl_Cc_10 (by decide) hs17 (gv9_0 hs17) ?_
  obtain ⟨hs18, hL⟩ := cC_un hL
  refine ev_get (pc := 32) (c9 := 8) (k9 := 1) dX9_feed_32 fl_Cc_114 (by decide) hs18 gv8_1 ?_
  refine ev_iload (pc := 35) dX9_feed_35 rfl ?_
  refine ev_iadd (pc := 37) dX9_feed_37 ?_
  refine ev_sipush (pc := 38) dX9_feed_38 (by decide) ?_
  refine ev_icmp_le (pc := 41) (tgt := 46) dX9_feed_41 rfl hL rfl (fun hL => ?_) (fun hL => ?_)
  · refine ev_iconst (pc := 44) dX9_feed_44 ?_
    exact evB_iret (pc := 45) dX9_feed_45 rfl hL
  · refine ev_aload_n (pc := 46) (i := 0) dX9_feed_46 rfl rfl ?_
    refine ev_get (pc := 47) (c9 := 9) (k9 := 0) dX9_feed_47 fl_Cc_10 (by decide) hs17 (gv9_0 hs17) ?_
    refine ev_iload_n (pc := 50) (i := 1) dX9_feed_50 rfl rfl ?_
    obtain ⟨r19, h20, hc21, hL⟩ := cl_un hL
    refine evB_callV_V (pc := 51) (M_Tp_add hc21) dX9_feed_51 mt_Tp_add st_Tp_add ml_Cc_117 hs18 (by decide) ⟨_, rfl, rfl⟩ (Nat.le_of_ble_eq_true rfl) rfl rfl (Nat.le_trans sm_z (by decide)) ?_
    refine ev_aload_n (pc := 54) (i := 0) dX9_feed_54 rfl rfl ?_
    refine ev_get (pc := 55) (c9 := 9) (k9 := 0) dX9_feed_55 fl_Cc_10 (by decide) hs17 (gv9_0 hs17) ?_
    refine ev_iload_n (pc := 58) (i := 2) dX9_feed_58 rfl rfl ?_
    obtain ⟨r22, h23, hc24, hL⟩ := cl_un hL
    refine evB_callV_V (pc := 59) (M_Tp_add hc24) dX9_feed_59 mt_Tp_add st_Tp_add ml_Cc_117 hs18 (by decide) ⟨_, rfl, rfl⟩ (Nat.le_of_ble_eq_true rfl) rfl rfl (Nat.le_trans sm_z (by decide)) ?_
    refine ev_aload_n (pc := 62) (i := 0) dX9_feed_62 rfl rfl ?_
    refine ev_get (pc := 63) (c9 := 9) (k9 := 0) dX9_feed_63 fl_Cc_10 (by decide) hs17 (gv9_0 hs17) ?_
    refine ev_iload_n (pc := 66) (i := 3) dX9_feed_66 rfl rfl ?_
    obtain ⟨r25, h26, hc27, hL⟩ := cl_un hL
    refine evB_callV_V (pc := 67) (M_Tp_add hc27) dX9_feed_67 mt_Tp_add st_Tp_add ml_Cc_117 hs18 (by decide) ⟨_, rfl, rfl⟩ (Nat.le_of_ble_eq_true rfl) rfl rfl (Nat.le_trans sm_z (by decide)) ?_
    refine ev_aload_n (pc := 70) (i := 0) dX9_feed_70 rfl rfl ?_
    refine ev_get (pc := 71) (c9 := 9) (k9 := 0) dX9_feed_71 fl_Cc_10 (by decide) hs17 (gv9_0 hs17) ?_
    refine ev_iload (pc := 74) dX9_feed_74 rfl ?_
    obtain ⟨r28, h29, hc30, hL⟩ := cl_un hL
    refine evB_callV_V (pc := 76) (M_Tp_add hc30) dX9_feed_76 mt_Tp_add st_Tp_add ml_Cc_117 hs18 (by decide) ⟨_, rfl, rfl⟩ (Nat.le_of_ble_eq_true rfl) rfl rfl (Nat.le_trans sm_z (by decide)) ?_
    refine ev_aload_n (pc := 79) (i := 0) dX9_feed_79 rfl rfl ?_
    refine ev_get (pc := 80) (c9 := 9) (k9 := 0) dX9_feed_80 fl_Cc_10 (by decide) hs17 (gv9_0 hs17) ?_
    refine ev_iload (pc := 83) dX9_feed_83 rfl ?_
    obtain ⟨r31, h32, hc33, hL⟩ := cl_un hL
    refine evB_callV_V (pc := 85) (M_Tp_add hc33) dX9_feed_85 mt_Tp_add st_Tp_add ml_Cc_117 hs18 (by decide) ⟨_, rfl, rfl⟩ (Nat.le_of_ble_eq_true rfl) rfl rfl (Nat.le_trans sm_z (by decide)) ?_
    refine ev_aload_n (pc := 88) (i := 0) dX9_feed_88 rfl rfl ?_
    refine ev_get (pc := 89) (c9 := 9) (k9 := 0) dX9_feed_89 fl_Cc_10 (by decide) hs17 (gv9_0 hs17) ?_
    refine ev_get (pc := 92) (c9 := 8) (k9 := 1) dX9_feed_92 fl_Cc_114 (by decide) hs18 gv8_1 ?_
    exact evB_iret (pc := 95) dX9_feed_95 rfl hL
set_option maxHeartbeats 1000000 in
set_option maxRecDepth 100000 in
theorem M_Cc_liking {ω : Wd} {z : Nat → Prop} {h h' : Hp} {a0 a1 a2 r : Int}  (hL : Cc_liking h a0 a1 a2 = some (r, h')) : CtB ω N_Cc_liking 3 [aV ω a0, iV a1, iV a2] z h (some (iV r)) h' := by
  unfold Cc_liking at hL
  refine Ct_of (lv := [some (aV ω a0), some (iV a1), some (iV a2)]) (by decide) (Nat.le_trans (sl_1 (cat_aV _ _) (sl_1 (cat_iV _) (sl_1 (cat_iV _) sl_z))) (Nat.le_of_ble_eq_true rfl)) (la_1 (cat_aV _ _) (la_1 (cat_iV _) (la_1 (cat_iV _) la_z))) ?_
  refine ev_aload_n (pc := 0) (i := 0) dX9_liking_0 rfl rfl ?_
  obtain ⟨hs1, hL⟩ := cC_un hL
  refine ev_get (pc := 1) (c9 := 9) (k9 := 10) dX9_liking_1 fl_Cc_58 (by decide) hs1 (gv9_10 hs1) ?_
  refine ev_iload_n (pc := 4) (i := 1) dX9_liking_4 rfl rfl ?_
  obtain ⟨hs2, hL⟩ := cC_un hL
  obtain ⟨r3, h4, hc5, hL⟩ := cl_un hL
  refine evB_callV_I (pc := 5) (M_St_lonelyOf hc5) dX9_liking_5 mt_St_lonelyOf st_St_lonelyOf ml_Cc_142 hs2 (by decide) ⟨_, rfl, rfl⟩ (Nat.le_of_ble_eq_true rfl) rfl rfl (Nat.le_trans sm_z (by decide)) ?_
  refine ev_aload_n (pc := 8) (i := 0) dX9_liking_8 rfl rfl ?_
  refine ev_get (pc := 9) (c9 := 9) (k9 := 10) dX9_liking_9 fl_Cc_58 (by decide) hs1 (gv9_10 hs1) ?_
  refine ev_iload_n (pc := 12) (i := 2) dX9_liking_12 rfl rfl ?_
  obtain ⟨r6, h7, hc8, hL⟩ := cl_un hL
  refine evB_callV_I (pc := 13) (M_St_boreOf hc8) dX9_liking_13 mt_St_boreOf st_St_boreOf ml_Cc_145 hs2 (by decide) ⟨_, rfl, rfl⟩ (Nat.le_of_ble_eq_true rfl) rfl rfl (Nat.le_trans (sm_1 (cat_iV _) sm_z) (by decide)) ?_
  refine ev_isub (pc := 16) dX9_liking_16 ?_
  exact evB_iret (pc := 17) dX9_liking_17 rfl hL
set_option maxHeartbeats 1000000 in
set_option maxRecDepth 100000 in
theorem M_Cc_seatLiking {ω : Wd} {z : Nat → Prop} {h h' : Hp} {a0 a1 a2 r : Int}  (hL : Cc_seatLiking h a0 a1 a2 = some (r, h')) : CtB ω N_Cc_seatLiking 4 [aV ω a0, aV ω a1, iV a2] z h (some (iV r)) h' := by
  unfold Cc_seatLiking at hL
  refine Ct_of (lv := [some (aV ω a0), some (aV ω a1), some (iV a2), none]) (by decide) (Nat.le_trans (sl_1 (cat_aV _ _) (sl_1 (cat_aV _ _) (sl_1 (cat_iV _) sl_z))) (Nat.le_of_ble_eq_true rfl)) (la_1 (cat_aV _ _) (la_1 (cat_aV _ _) (la_1 (cat_iV _) (la_n la_z)))) ?_
  refine ev_aload_n (pc := 0) (i := 1) dX9_seatLiking_0 rfl rfl ?_
  refine ev_iload_n (pc := 1) (i := 2) dX9_seatLiking_1 rfl rfl ?_
  obtain ⟨r1, h2, hc3, hL⟩ := cl_un hL
  refine evB_callS_I (pc := 2) (M_Cc_at hc3) dX9_seatLiking_2 mt_Cc_at st_Cc_at ml_Cc_333 (Nat.le_of_ble_eq_true rfl) rfl rfl (Nat.le_trans sm_z (by decide)) ?_
  refine ev_istore_n (pc := 5) (i := 3) dX9_seatLiking_5 rfl (lnl_v rfl rfl) (Nat.le_of_ble_eq_true rfl) ?_
  refine ev_iload_n (pc := 6) (i := 3) dX9_seatLiking_6 rfl rfl ?_
  refine ev_bipush (pc := 7) dX9_seatLiking_7 (by decide) ?_
  refine ev_icmp_ne (pc := 9) (tgt := 16) dX9_seatLiking_9 rfl hL rfl (fun hL => ?_) (fun hL => ?_)
  · refine ev_iconst (pc := 12) dX9_seatLiking_12 ?_
    refine ev_goto (pc := 13) (tgt := 22) dX9_seatLiking_13 rfl ?_
    exact evB_iret (pc := 22) dX9_seatLiking_22 rfl hL
  · refine ev_aload_n (pc := 16) (i := 0) dX9_seatLiking_16 rfl rfl ?_
    refine ev_iload_n (pc := 17) (i := 2) dX9_seatLiking_17 rfl rfl ?_
    refine ev_iload_n (pc := 18) (i := 3) dX9_seatLiking_18 rfl rfl ?_
    obtain ⟨hs4, hL⟩ := cC_un hL
    obtain ⟨r5, h6, hc7, hL⟩ := cl_un hL
    refine evB_callV_I (pc := 19) (M_Cc_liking hc7) dX9_seatLiking_19 mt_Cc_liking st_Cc_liking ml_Cc_429 hs4 (by decide) ⟨_, rfl, rfl⟩ (Nat.le_of_ble_eq_true rfl) rfl rfl (Nat.le_trans sm_z (by decide)) ?_
    exact evB_iret (pc := 22) dX9_seatLiking_22 rfl hL
set_option maxHeartbeats 1000000 in
set_option maxRecDepth 100000 in
theorem KCc_isFirm_b28_body {ω : Wd} {z : Nat → Prop} {k2 : Hp × Int × Int × Int → Option (Int × Hp)} {k28 : Hp × Int × Int × Int × Int → Option (Int × Hp)} {h h' : Hp} {x0 x1 x2 x3 r : Int} (hk2 : ∀ s o, k2 s = some o → EvB ω N_Cc_isFirm 5 (QB (some (iV o.1)) z o.2) z s.1 2 [some (aV ω s.2.1), some (aV ω s.2.2.1), some (iV s.2.2.2), none] []) (hk28 : ∀ s o, k28 s = some o → EvB ω N_Cc_isFirm 5 (QB (some (iV o.1)) z o.2) z s.1 28 [some (aV ω s.2.1), some (aV ω s.2.2.1), some (iV s.2.2.2.1), some (iV s.2.2.2.2)] []) (hL : Cc_isFirm_b28_body k2 k28 h x0 x1 x2 x3 = some (r, h')) : EvB ω N_Cc_isFirm 5 (QB (some (iV r)) z h') z h 28 [some (aV ω x0), some (aV ω x1), some (iV x2), some (iV x3)] [] := by
  unfold Cc_isFirm_b28_body at hL
  refine ev_iload_n (pc := 28) (i := 3) dX9_isFirm_28 rfl rfl ?_
  refine ev_aload_n (pc := 29) (i := 0) dX9_isFirm_29 rfl rfl ?_
  obtain ⟨hs7, hL⟩ := cC_un hL
  refine ev_get (pc := 30) (c9 := 9) (k9 := 10) dX9_isFirm_30 fl_Cc_58 (by decide) hs7 (gv9_10 hs7) ?_
  obtain ⟨hs8, hL⟩ := cC_un hL
  refine ev_get (pc := 33) (c9 := 7) (k9 := 4) dX9_isFirm_33 fl_Cc_282 (by decide) hs8 gv7_4 ?_
  refine ev_icmp_ge (pc := 36) (tgt := 86) dX9_isFirm_36 rfl hL rfl (fun hL => ?_) (fun hL => ?_)
  · refine ev_aload_n (pc := 39) (i := 1) dX9_isFirm_39 rfl rfl ?_
    refine ev_iload_n (pc := 40) (i := 2) dX9_isFirm_40 rfl rfl ?_
    obtain ⟨r9, h10, hc11, hL⟩ := cl_un hL
    refine evB_callS_I (pc := 41) (M_Cc_at hc11) dX9_isFirm_41 mt_Cc_at st_Cc_at ml_Cc_333 (Nat.le_of_ble_eq_true rfl) rfl rfl (Nat.le_trans sm_z (by decide)) ?_
    refine ev_iload_n (pc := 44) (i := 3) dX9_isFirm_44 rfl rfl ?_
    refine ev_icmp_eq (pc := 45) (tgt := 80) dX9_isFirm_45 rfl hL rfl (fun hL => ?_) (fun hL => ?_)
    · refine ev_iinc (pc := 80) dX9_isFirm_80 rfl (lnl_v rfl rfl) (Nat.le_of_ble_eq_true rfl) ?_
      refine ev_goto (pc := 83) (tgt := 28) dX9_isFirm_83 rfl ?_
      exact ev_le (lvle_s (lvle_s (lvle_s (lvle_s lvle_z)))) (hk28 _ _ hL)
    · refine ev_aload_n (pc := 48) (i := 0) dX9_isFirm_48 rfl rfl ?_
      refine ev_iload_n (pc := 49) (i := 2) dX9_isFirm_49 rfl rfl ?_
      refine ev_iload_n (pc := 50) (i := 3) dX9_isFirm_50 rfl rfl ?_
      obtain ⟨r12, h13, hc14, hL⟩ := cl_un hL
      refine evB_callV_I (pc := 51) (M_Cc_liking hc14) dX9_isFirm_51 mt_Cc_liking st_Cc_liking ml_Cc_429 hs7 (by decide) ⟨_, rfl, rfl⟩ (Nat.le_of_ble_eq_true rfl) rfl rfl (Nat.le_trans sm_z (by decide)) ?_
      refine ev_aload_n (pc := 54) (i := 0) dX9_isFirm_54 rfl rfl ?_
      refine ev_aload_n (pc := 55) (i := 1) dX9_isFirm_55 rfl rfl ?_
      refine ev_iload_n (pc := 56) (i := 2) dX9_isFirm_56 rfl rfl ?_
      obtain ⟨r15, h16, hc17, hL⟩ := cl_un hL
      refine evB_callV_I (pc := 57) (M_Cc_seatLiking hc17) dX9_isFirm_57 mt_Cc_seatLiking st_Cc_seatLiking ml_Cc_432 hs7 (by decide) ⟨_, rfl, rfl⟩ (Nat.le_of_ble_eq_true rfl) rfl rfl (Nat.le_trans (sm_1 (cat_iV _) sm_z) (by decide)) ?_
      refine ev_icmp_le (pc := 60) (tgt := 80) dX9_isFirm_60 rfl hL rfl (fun hL => ?_) (fun hL => ?_)
      · refine ev_aload_n (pc := 63) (i := 0) dX9_isFirm_63 rfl rfl ?_
        refine ev_iload_n (pc := 64) (i := 3) dX9_isFirm_64 rfl rfl ?_
        refine ev_iload_n (pc := 65) (i := 2) dX9_isFirm_65 rfl rfl ?_
        obtain ⟨r18, h19, hc20, hL⟩ := cl_un hL
        refine evB_callV_I (pc := 66) (M_Cc_liking hc20) dX9_isFirm_66 mt_Cc_liking st_Cc_liking ml_Cc_429 hs7 (by decide) ⟨_, rfl, rfl⟩ (Nat.le_of_ble_eq_true rfl) rfl rfl (Nat.le_trans sm_z (by decide)) ?_
        refine ev_aload_n (pc := 69) (i := 0) dX9_isFirm_69 rfl rfl ?_
        refine ev_aload_n (pc := 70) (i := 1) dX9_isFirm_70 rfl rfl ?_
        refine ev_iload_n (pc := 71) (i := 3) dX9_isFirm_71 rfl rfl ?_
        obtain ⟨r21, h22, hc23, hL⟩ := cl_un hL
        refine evB_callV_I (pc := 72) (M_Cc_seatLiking hc23) dX9_isFirm_72 mt_Cc_seatLiking st_Cc_seatLiking ml_Cc_432 hs7 (by decide) ⟨_, rfl, rfl⟩ (Nat.le_of_ble_eq_true rfl) rfl rfl (Nat.le_trans (sm_1 (cat_iV _) sm_z) (by decide)) ?_
        refine ev_icmp_le (pc := 75) (tgt := 80) dX9_isFirm_75 rfl hL rfl (fun hL => ?_) (fun hL => ?_)
        · refine ev_iconst (pc := 78) dX9_isFirm_78 ?_
          exact evB_zret (pc := 79) dX9_isFirm_79 rfl rfl hL
        · refine ev_iinc (pc := 80) dX9_isFirm_80 rfl (lnl_v rfl rfl) (Nat.le_of_ble_eq_true rfl) ?_
          refine ev_goto (pc := 83) (tgt := 28) dX9_isFirm_83 rfl ?_
          exact ev_le (lvle_s (lvle_s (lvle_s (lvle_s lvle_z)))) (hk28 _ _ hL)
      · refine ev_iinc (pc := 80) dX9_isFirm_80 rfl (lnl_v rfl rfl) (Nat.le_of_ble_eq_true rfl) ?_
        refine ev_goto (pc := 83) (tgt := 28) dX9_isFirm_83 rfl ?_
        exact ev_le (lvle_s (lvle_s (lvle_s (lvle_s lvle_z)))) (hk28 _ _ hL)
  · refine ev_iinc (pc := 86) dX9_isFirm_86 rfl (lnl_v (cat_aV _ _) rfl) (Nat.le_of_ble_eq_true rfl) ?_
    refine ev_goto (pc := 89) (tgt := 2) dX9_isFirm_89 rfl ?_
    exact ev_le (lvle_s (lvle_s (lvle_s (lvle_n lvle_z)))) (hk2 _ _ hL)
set_option maxHeartbeats 1000000 in
set_option maxRecDepth 100000 in
theorem KCc_isFirm_b28 {ω : Wd} {z : Nat → Prop} {k2 : Hp × Int × Int × Int → Option (Int × Hp)} {h h' : Hp} {x0 x1 x2 x3 r : Int} (hk2 : ∀ s o, k2 s = some o → EvB ω N_Cc_isFirm 5 (QB (some (iV o.1)) z o.2) z s.1 2 [some (aV ω s.2.1), some (aV ω s.2.2.1), some (iV s.2.2.2), none] []) (hL : Cc_isFirm_b28 k2 h x0 x1 x2 x3 = some (r, h')) : EvB ω N_Cc_isFirm 5 (QB (some (iV r)) z h') z h 28 [some (aV ω x0), some (aV ω x1), some (iV x2), some (iV x3)] [] := by
  unfold Cc_isFirm_b28 at hL
  refine itr_link (P := fun (s : Hp × Int × Int × Int × Int) (o : Int × Hp) => EvB ω N_Cc_isFirm 5 (QB (some (iV o.1)) z o.2) z s.1 28 [some (aV ω s.2.1), some (aV ω s.2.2.1), some (iV s.2.2.2.1), some (iV s.2.2.2.2)] []) ?_ _ _ _ hL
  intro k hk s o h9
  have h10 := KCc_isFirm_b28_body (ω := ω) (z := z) (k2 := k2) (k28 := k) (h := s.1) (x0 := s.2.1) (x1 := s.2.2.1) (x2 := s.2.2.2.1) (x3 := s.2.2.2.2) (r := o.1) (h' := o.2) hk2
  exact h10 hk h9
set_option maxHeartbeats 1000000 in
set_option maxRecDepth 100000 in
theorem KCc_isFirm_b2_body {ω : Wd} {z : Nat → Prop}  {k2 : Hp × Int × Int × Int → Option (Int × Hp)} {h h' : Hp} {x0 x1 x2 r : Int}  (hk2 : ∀ s o, k2 s = some o → EvB ω N_Cc_isFirm 5 (QB (some (iV o.1)) z o.2) z s.1 2 [some (aV ω s.2.1), some (aV ω s.2.2.1), some (iV s.2.2.2), none] []) (hL : Cc_isFirm_b2_body  k2 h x0 x1 x2 = some (r, h')) : EvB ω N_Cc_isFirm 5 (QB (some (iV r)) z h') z h 2 [some (aV ω x0), some (aV ω x1), some (iV x2), none] [] := by
  unfold Cc_isFirm_b2_body at hL
  refine ev_iload_n (pc := 2) (i := 2) dX9_isFirm_2 rfl rfl ?_
  refine ev_aload_n (pc := 3) (i := 0) dX9_isFirm_3 rfl rfl ?_
  obtain ⟨hs1, hL⟩ := cC_un hL
  refine ev_get (pc := 4) (c9 := 9) (k9 := 10) dX9_isFirm_4 fl_Cc_58 (by decide) hs1 (gv9_10 hs1) ?_
  obtain ⟨hs2, hL⟩ := cC_un hL
  refine ev_get (pc := 7) (c9 := 7) (k9 := 4) dX9_isFirm_7 fl_Cc_282 (by decide) hs2 gv7_4 ?_
  refine ev_icmp_ge (pc := 10) (tgt := 92) dX9_isFirm_10 rfl hL rfl (fun hL => ?_) (fun hL => ?_)
  · refine ev_aload_n (pc := 13) (i := 0) dX9_isFirm_13 rfl rfl ?_
    refine ev_aload_n (pc := 14) (i := 1) dX9_isFirm_14 rfl rfl ?_
    refine ev_iload_n (pc := 15) (i := 2) dX9_isFirm_15 rfl rfl ?_
    obtain ⟨r3, h4, hc5, hL⟩ := cl_un hL
    refine evB_callV_I (pc := 16) (M_Cc_seatLiking hc5) dX9_isFirm_16 mt_Cc_seatLiking st_Cc_seatLiking ml_Cc_432 hs1 (by decide) ⟨_, rfl, rfl⟩ (Nat.le_of_ble_eq_true rfl) rfl rfl (Nat.le_trans sm_z (by decide)) ?_
    refine ev_if_ge (pc := 19) (tgt := 24) dX9_isFirm_19 rfl hL rfl (fun hL => ?_) (fun hL => ?_)
    · refine ev_iconst (pc := 22) dX9_isFirm_22 ?_
      exact evB_zret (pc := 23) dX9_isFirm_23 rfl rfl hL
    · refine ev_iload_n (pc := 24) (i := 2) dX9_isFirm_24 rfl rfl ?_
      refine ev_iconst (pc := 25) dX9_isFirm_25 ?_
      refine ev_iadd (pc := 26) dX9_isFirm_26 ?_
      refine ev_bdI hL (fun v6 hL => ?_)
      refine ev_istore_n (pc := 27) (i := 3) dX9_isFirm_27 rfl (lnl_v rfl rfl) (Nat.le_of_ble_eq_true rfl) ?_
      exact ev_le (lvle_s (lvle_s (lvle_s (lvle_s lvle_z)))) (KCc_isFirm_b28 hk2 hL)
  · refine ev_iconst (pc := 92) dX9_isFirm_92 ?_
    exact evB_zret (pc := 93) dX9_isFirm_93 rfl rfl hL
set_option maxHeartbeats 1000000 in
set_option maxRecDepth 100000 in
theorem KCc_isFirm_b2 {ω : Wd} {z : Nat → Prop}  {h h' : Hp} {x0 x1 x2 r : Int}  (hL : Cc_isFirm_b2 h x0 x1 x2 = some (r, h')) : EvB ω N_Cc_isFirm 5 (QB (some (iV r)) z h') z h 2 [some (aV ω x0), some (aV ω x1), some (iV x2), none] [] := by
  unfold Cc_isFirm_b2 at hL
  refine itr_link (P := fun (s : Hp × Int × Int × Int) (o : Int × Hp) => EvB ω N_Cc_isFirm 5 (QB (some (iV o.1)) z o.2) z s.1 2 [some (aV ω s.2.1), some (aV ω s.2.2.1), some (iV s.2.2.2), none] []) ?_ _ _ _ hL
  intro k hk s o h9
  have h10 := KCc_isFirm_b2_body (ω := ω) (z := z) (k2 := k) (h := s.1) (x0 := s.2.1) (x1 := s.2.2.1) (x2 := s.2.2.2) (r := o.1) (h' := o.2) 
  exact h10 hk h9
set_option maxHeartbeats 1000000 in
set_option maxRecDepth 100000 in
theorem M_Cc_isFirm {ω : Wd} {z : Nat → Prop} {h h' : Hp} {a0 a1 r : Int}  (hL : Cc_isFirm h a0 a1 = some (r, h')) : CtB ω N_Cc_isFirm 5 [aV ω a0, aV ω a1] z h (some (iV r)) h' := by
  unfold Cc_isFirm at hL
  refine Ct_of (lv := [some (aV ω a0), some (aV ω a1), none, none]) (by decide) (Nat.le_trans (sl_1 (cat_aV _ _) (sl_1 (cat_aV _ _) sl_z)) (Nat.le_of_ble_eq_true rfl)) (la_1 (cat_aV _ _) (la_1 (cat_aV _ _) (la_n (la_n la_z)))) ?_
  refine ev_iconst (pc := 0) dX9_isFirm_0 ?_
  refine ev_istore_n (pc := 1) (i := 2) dX9_isFirm_1 rfl (lnl_v (cat_aV _ _) rfl) (Nat.le_of_ble_eq_true rfl) ?_
  exact ev_le (lvle_s (lvle_s (lvle_s (lvle_n lvle_z)))) (KCc_isFirm_b2  hL)
set_option maxHeartbeats 1000000 in
set_option maxRecDepth 100000 in
theorem M_Rw_rowAt {ω : Wd} {z : Nat → Prop} {h h' : Hp} {a0 a1 r : Int}  (hL : Rw_rowAt h a0 a1 = some (r, h')) : CtB ω N_Rw_rowAt 2 [aV ω a0, iV a1] z h (some (iV r)) h' := by
  unfold Rw_rowAt at hL
  refine Ct_of (lv := [some (aV ω a0), some (iV a1)]) (by decide) (Nat.le_trans (sl_1 (cat_aV _ _) (sl_1 (cat_iV _) sl_z)) (Nat.le_of_ble_eq_true rfl)) (la_1 (cat_aV _ _) (la_1 (cat_iV _) la_z)) ?_
  refine ev_aload_n (pc := 0) (i := 0) dX5_rowAt_0 rfl rfl ?_
  obtain ⟨hs1, hL⟩ := cC_un hL
  refine ev_get (pc := 1) (c9 := 5) (k9 := 0) dX5_rowAt_1 fl_Rw_9 (by decide) hs1 (gv5_0 hs1) ?_
  refine ev_iload_n (pc := 4) (i := 1) dX5_rowAt_4 rfl rfl ?_
  obtain ⟨r2, h3, hc4, hL⟩ := cl_un hL
  refine evB_callS_I (pc := 5) (M_Cc_at hc4) dX5_rowAt_5 mt_Cc_at st_Cc_at ml_Rw_36 (Nat.le_of_ble_eq_true rfl) rfl rfl (Nat.le_trans sm_z (by decide)) ?_
  exact evB_iret (pc := 8) dX5_rowAt_8 rfl hL
set_option maxHeartbeats 1000000 in
set_option maxRecDepth 100000 in
theorem KRw_seatsOf_b13_body {ω : Wd} {z : Nat → Prop}  {k13 : Hp × Int × Int × Int → Option (Int × Hp)} {h h' : Hp} {x0 x2 x3 r : Int}  (hk13 : ∀ s o, k13 s = some o → EvB ω N_Rw_seatsOf 3 (QB (some (aV ω o.1)) z o.2) z s.1 13 [some (aV ω s.2.1), none, some (iV s.2.2.1), some (iV s.2.2.2)] []) (hL : Rw_seatsOf_b13_body  k13 h x0 x2 x3 = some (r, h')) : EvB ω N_Rw_seatsOf 3 (QB (some (aV ω r)) z h') z h 13 [some (aV ω x0), none, some (iV x2), some (iV x3)] [] := by
  unfold Rw_seatsOf_b13_body at hL
  refine ev_iload_n (pc := 13) (i := 3) dX5_seatsOf_13 rfl rfl ?_
  refine ev_if_lt (pc := 14) (tgt := 40) dX5_seatsOf_14 rfl hL rfl (fun hL => ?_) (fun hL => ?_)
  · refine ev_aload_n (pc := 40) (i := 0) dX5_seatsOf_40 rfl rfl ?_
    obtain ⟨hs6, hL⟩ := cC_un hL
    refine ev_get (pc := 41) (c9 := 5) (k9 := 1) dX5_seatsOf_41 fl_Rw_15 (by decide) hs6 (gv5_1 hs6) ?_
    exact evB_aret (pc := 44) dX5_seatsOf_44 rfl (Or.inr ⟨_, rfl⟩) hL
  · refine ev_aload_n (pc := 17) (i := 0) dX5_seatsOf_17 rfl rfl ?_
    obtain ⟨hs7, hL⟩ := cC_un hL
    refine ev_get (pc := 18) (c9 := 5) (k9 := 1) dX5_seatsOf_18 fl_Rw_15 (by decide) hs7 (gv5_1 hs7) ?_
    refine ev_iload_n (pc := 21) (i := 3) dX5_seatsOf_21 rfl rfl ?_
    refine ev_iload_n (pc := 22) (i := 2) dX5_seatsOf_22 rfl rfl ?_
    refine ev_bipush (pc := 23) dX5_seatsOf_23 (by decide) ?_
    refine ev_irem (pc := 25) dX5_seatsOf_25 hL (fun hL => ?_)
    obtain ⟨r8, h9, hc10, hL⟩ := cl_un hL
    refine evB_callS_V (pc := 26) (M_Cc_put hc10) dX5_seatsOf_26 mt_Cc_put st_Cc_put ml_Rw_25 (Nat.le_of_ble_eq_true rfl) rfl rfl (Nat.le_trans sm_z (by decide)) ?_
    refine ev_iload_n (pc := 29) (i := 2) dX5_seatsOf_29 rfl rfl ?_
    refine ev_bipush (pc := 30) dX5_seatsOf_30 (by decide) ?_
    refine ev_idiv (pc := 32) dX5_seatsOf_32 hL (fun hL => ?_)
    refine ev_bdI hL (fun v11 hL => ?_)
    refine ev_istore_n (pc := 33) (i := 2) dX5_seatsOf_33 rfl (lnl_n rfl) (Nat.le_of_ble_eq_true rfl) ?_
    refine ev_iinc (pc := 34) dX5_seatsOf_34 rfl (lnl_v rfl rfl) (Nat.le_of_ble_eq_true rfl) ?_
    refine ev_goto (pc := 37) (tgt := 13) dX5_seatsOf_37 rfl ?_
    exact ev_le (lvle_s (lvle_n (lvle_s (lvle_s lvle_z)))) (hk13 _ _ hL)
set_option maxHeartbeats 1000000 in
set_option maxRecDepth 100000 in
theorem KRw_seatsOf_b13 {ω : Wd} {z : Nat → Prop}  {h h' : Hp} {x0 x2 x3 r : Int}  (hL : Rw_seatsOf_b13 h x0 x2 x3 = some (r, h')) : EvB ω N_Rw_seatsOf 3 (QB (some (aV ω r)) z h') z h 13 [some (aV ω x0), none, some (iV x2), some (iV x3)] [] := by
  unfold Rw_seatsOf_b13 at hL
  refine itr_link (P := fun (s : Hp × Int × Int × Int) (o : Int × Hp) => EvB ω N_Rw_seatsOf 3 (QB (some (aV ω o.1)) z o.2) z s.1 13 [some (aV ω s.2.1), none, some (iV s.2.2.1), some (iV s.2.2.2)] []) ?_ _ _ _ hL
  intro k hk s o h9
  have h10 := KRw_seatsOf_b13_body (ω := ω) (z := z) (k13 := k) (h := s.1) (x0 := s.2.1) (x2 := s.2.2.1) (x3 := s.2.2.2) (r := o.1) (h' := o.2) 
  exact h10 hk h9
set_option maxHeartbeats 1000000 in
set_option maxRecDepth 100000 in
theorem M_Rw_seatsOf {ω : Wd} {z : Nat → Prop} {h h' : Hp} {a0 a1 r : Int}  (hL : Rw_seatsOf h a0 a1 = some (r, h')) : CtB ω N_Rw_seatsOf 3 [aV ω a0, iV a1] z h (some (aV ω r)) h' := by
  unfold Rw_seatsOf at hL
  refine Ct_of (lv := [some (aV ω a0), some (iV a1), none, none]) (by decide) (Nat.le_trans (sl_1 (cat_aV _ _) (sl_1 (cat_iV _) sl_z)) (Nat.le_of_ble_eq_true rfl)) (la_1 (cat_aV _ _) (la_1 (cat_iV _) (la_n (la_n la_z)))) ?_
  refine ev_aload_n (pc := 0) (i := 0) dX5_seatsOf_0 rfl rfl ?_
  refine ev_iload_n (pc := 1) (i := 1) dX5_seatsOf_1 rfl rfl ?_
  obtain ⟨hs1, hL⟩ := cC_un hL
  obtain ⟨r2, h3, hc4, hL⟩ := cl_un hL
  refine evB_callV_I (pc := 2) (M_Rw_rowAt hc4) dX5_seatsOf_2 mt_Rw_rowAt st_Rw_rowAt ml_Rw_43 hs1 (by decide) ⟨_, rfl, rfl⟩ (Nat.le_of_ble_eq_true rfl) rfl rfl (Nat.le_trans sm_z (by decide)) ?_
  refine ev_istore_n (pc := 5) (i := 2) dX5_seatsOf_5 rfl (lnl_v rfl rfl) (Nat.le_of_ble_eq_true rfl) ?_
  refine ev_aload_n (pc := 6) (i := 0) dX5_seatsOf_6 rfl rfl ?_
  refine ev_get (pc := 7) (c9 := 5) (k9 := 3) dX5_seatsOf_7 fl_Rw_22 (by decide) hs1 gv5_3 ?_
  refine ev_iconst (pc := 10) dX5_seatsOf_10 ?_
  refine ev_isub (pc := 11) dX5_seatsOf_11 ?_
  refine ev_bdI hL (fun v5 hL => ?_)
  refine ev_istore_n (pc := 12) (i := 3) dX5_seatsOf_12 rfl (lnl_v rfl rfl) (Nat.le_of_ble_eq_true rfl) ?_
  exact ev_le (lvle_s (lvle_n (lvle_s (lvle_s lvle_z)))) (KRw_seatsOf_b13  hL)
set_option maxHeartbeats 1000000 in
set_option maxRecDepth 100000 in
theorem KCc_firm_b13_body {ω : Wd} {z : Nat → Prop}  {k13 : Hp × Int × Int × Int × Int → Option (Int × Hp)} {h h' : Hp} {x0 x1 x2 x3 r : Int}  (hk13 : ∀ s o, k13 s = some o → EvB ω N_Cc_firm 6 (QB (some (iV o.1)) z o.2) z s.1 13 [some (aV ω s.2.1), some (iV s.2.2.1), some (iV s.2.2.2.1), some (iV s.2.2.2.2)] []) (hL : Cc_firm_b13_body  k13 h x0 x1 x2 x3 = some (r, h')) : EvB ω N_Cc_firm 6 (QB (some (iV r)) z h') z h 13 [some (aV ω x0), some (iV x1), some (iV x2), some (iV x3)] [] := by
  unfold Cc_firm_b13_body at hL
  refine ev_iload_n (pc := 13) (i := 3) dX9_firm_13 rfl rfl ?_
  refine ev_aload_n (pc := 14) (i := 0) dX9_firm_14 rfl rfl ?_
  obtain ⟨hs5, hL⟩ := cC_un hL
  refine ev_get (pc := 15) (c9 := 9) (k9 := 17) dX9_firm_15 fl_Cc_96 (by decide) hs5 (gv9_17 hs5) ?_
  obtain ⟨hs6, hL⟩ := cC_un hL
  refine ev_get (pc := 18) (c9 := 5) (k9 := 2) dX9_firm_18 fl_Cc_305 (by decide) hs6 gv5_2 ?_
  refine ev_icmp_ge (pc := 21) (tgt := 62) dX9_firm_21 rfl hL rfl (fun hL => ?_) (fun hL => ?_)
  · refine ev_aload_n (pc := 24) (i := 0) dX9_firm_24 rfl rfl ?_
    refine ev_aload_n (pc := 25) (i := 0) dX9_firm_25 rfl rfl ?_
    refine ev_get (pc := 26) (c9 := 9) (k9 := 17) dX9_firm_26 fl_Cc_96 (by decide) hs5 (gv9_17 hs5) ?_
    refine ev_iload_n (pc := 29) (i := 3) dX9_firm_29 rfl rfl ?_
    obtain ⟨r7, h8, hc9, hL⟩ := cl_un hL
    refine evB_callV_A (pc := 30) (M_Rw_seatsOf hc9) dX9_firm_30 mt_Rw_seatsOf st_Rw_seatsOf ml_Cc_308 hs6 (by decide) ⟨_, rfl, rfl⟩ (Nat.le_of_ble_eq_true rfl) rfl rfl (Nat.le_trans (sm_1 (cat_aV _ _) sm_z) (by decide)) ?_
    obtain ⟨r10, h11, hc12, hL⟩ := cl_un hL
    refine evB_callV_I (pc := 33) (M_Cc_isFirm hc12) dX9_firm_33 mt_Cc_isFirm st_Cc_isFirm ml_Cc_319 hs5 (by decide) ⟨_, rfl, rfl⟩ (Nat.le_of_ble_eq_true rfl) rfl rfl (Nat.le_trans sm_z (by decide)) ?_
    refine ev_if_eq (pc := 36) (tgt := 56) dX9_firm_36 rfl hL rfl (fun hL => ?_) (fun hL => ?_)
    · refine ev_iinc (pc := 56) dX9_firm_56 rfl (lnl_v rfl rfl) (Nat.le_of_ble_eq_true rfl) ?_
      refine ev_goto (pc := 59) (tgt := 13) dX9_firm_59 rfl ?_
      exact ev_le (lvle_s (lvle_s (lvle_s (lvle_s lvle_z)))) (hk13 _ _ hL)
    · refine ev_iload_n (pc := 39) (i := 2) dX9_firm_39 rfl rfl ?_
      refine ev_iload_n (pc := 40) (i := 1) dX9_firm_40 rfl rfl ?_
      refine ev_icmp_ne (pc := 41) (tgt := 53) dX9_firm_41 rfl hL rfl (fun hL => ?_) (fun hL => ?_)
      · refine ev_aload_n (pc := 44) (i := 0) dX9_firm_44 rfl rfl ?_
        refine ev_get (pc := 45) (c9 := 9) (k9 := 17) dX9_firm_45 fl_Cc_96 (by decide) hs5 (gv9_17 hs5) ?_
        refine ev_iload_n (pc := 48) (i := 3) dX9_firm_48 rfl rfl ?_
        obtain ⟨r13, h14, hc15, hL⟩ := cl_un hL
        refine evB_callV_I (pc := 49) (M_Rw_rowAt hc15) dX9_firm_49 mt_Rw_rowAt st_Rw_rowAt ml_Cc_316 hs6 (by decide) ⟨_, rfl, rfl⟩ (Nat.le_of_ble_eq_true rfl) rfl rfl (Nat.le_trans sm_z (by decide)) ?_
        exact evB_iret (pc := 52) dX9_firm_52 rfl hL
      · refine ev_iinc (pc := 53) dX9_firm_53 rfl (lnl_v rfl rfl) (Nat.le_of_ble_eq_true rfl) ?_
        refine ev_iinc (pc := 56) dX9_firm_56 rfl (lnl_v rfl rfl) (Nat.le_of_ble_eq_true rfl) ?_
        refine ev_goto (pc := 59) (tgt := 13) dX9_firm_59 rfl ?_
        exact ev_le (lvle_s (lvle_s (lvle_s (lvle_s lvle_z)))) (hk13 _ _ hL)
  · refine ev_iload_n (pc := 62) (i := 1) dX9_firm_62 rfl rfl ?_
    refine ev_iconst (pc := 63) dX9_firm_63 ?_
    refine ev_icmp_ne (pc := 64) (tgt := 71) dX9_firm_64 rfl hL rfl (fun hL => ?_) (fun hL => ?_)
    · refine ev_iload_n (pc := 67) (i := 2) dX9_firm_67 rfl rfl ?_
      refine ev_goto (pc := 68) (tgt := 72) dX9_firm_68 rfl ?_
      exact evB_iret (pc := 72) dX9_firm_72 rfl hL
    · refine ev_iconst (pc := 71) dX9_firm_71 ?_
      exact evB_iret (pc := 72) dX9_firm_72 rfl hL
set_option maxHeartbeats 1000000 in
set_option maxRecDepth 100000 in
theorem KCc_firm_b13 {ω : Wd} {z : Nat → Prop}  {h h' : Hp} {x0 x1 x2 x3 r : Int}  (hL : Cc_firm_b13 h x0 x1 x2 x3 = some (r, h')) : EvB ω N_Cc_firm 6 (QB (some (iV r)) z h') z h 13 [some (aV ω x0), some (iV x1), some (iV x2), some (iV x3)] [] := by
  unfold Cc_firm_b13 at hL
  refine itr_link (P := fun (s : Hp × Int × Int × Int × Int) (o : Int × Hp) => EvB ω N_Cc_firm 6 (QB (some (iV o.1)) z o.2) z s.1 13 [some (aV ω s.2.1), some (iV s.2.2.1), some (iV s.2.2.2.1), some (iV s.2.2.2.2)] []) ?_ _ _ _ hL
  intro k hk s o h9
  have h10 := KCc_firm_b13_body (ω := ω) (z := z) (k13 := k) (h := s.1) (x0 := s.2.1) (x1 := s.2.2.1) (x2 := s.2.2.2.1) (x3 := s.2.2.2.2) (r := o.1) (h' := o.2) 
  exact h10 hk h9
set_option maxHeartbeats 1000000 in
set_option maxRecDepth 100000 in
theorem M_Cc_firm {ω : Wd} {z : Nat → Prop} {h h' : Hp} {a0 a1 r : Int}  (hL : Cc_firm h a0 a1 = some (r, h')) : CtB ω N_Cc_firm 6 [aV ω a0, iV a1] z h (some (iV r)) h' := by
  unfold Cc_firm at hL
  refine Ct_of (lv := [some (aV ω a0), some (iV a1), none, none]) (by decide) (Nat.le_trans (sl_1 (cat_aV _ _) (sl_1 (cat_iV _) sl_z)) (Nat.le_of_ble_eq_true rfl)) (la_1 (cat_aV _ _) (la_1 (cat_iV _) (la_n (la_n la_z)))) ?_
  refine ev_aload_n (pc := 0) (i := 0) dX9_firm_0 rfl rfl ?_
  obtain ⟨hs1, hL⟩ := cC_un hL
  obtain ⟨r2, h3, hc4, hL⟩ := cl_un hL
  refine evB_callV_I (pc := 1) (M_Cc_isTold hc4) dX9_firm_1 mt_Cc_isTold st_Cc_isTold ml_Cc_223 hs1 (by decide) ⟨_, rfl, rfl⟩ (Nat.le_of_ble_eq_true rfl) rfl rfl (Nat.le_trans sm_z (by decide)) ?_
  refine ev_if_ne (pc := 4) (tgt := 9) dX9_firm_4 rfl hL rfl (fun hL => ?_) (fun hL => ?_)
  · refine ev_iconst (pc := 7) dX9_firm_7 ?_
    exact evB_iret (pc := 8) dX9_firm_8 rfl hL
  · refine ev_iconst (pc := 9) dX9_firm_9 ?_
    refine ev_istore_n (pc := 10) (i := 2) dX9_firm_10 rfl (lnl_v rfl rfl) (Nat.le_of_ble_eq_true rfl) ?_
    refine ev_iconst (pc := 11) dX9_firm_11 ?_
    refine ev_istore_n (pc := 12) (i := 3) dX9_firm_12 rfl (lnl_v rfl rfl) (Nat.le_of_ble_eq_true rfl) ?_
    exact ev_le (lvle_s (lvle_s (lvle_s (lvle_s lvle_z)))) (KCc_firm_b13  hL)
set_option maxHeartbeats 1000000 in
set_option maxRecDepth 100000 in
theorem KCc_gains_b35 {ω : Wd} {z : Nat → Prop}  {h h' : Hp} {x1 x2 x3 x4 x5 r : Int}  (hL : Cc_gains_b35 h x1 x2 x3 x4 x5 = some (r, h')) : EvB ω N_Cc_gains 4 (QB (some (iV r)) z h') z h 35 [none, some (iV x1), some (iV x2), some (iV x3), some (iV x4), some (iV x5)] [] := by
  unfold Cc_gains_b35 at hL
  refine ev_iload_n (pc := 35) (i := 3) dX9_gains_35 rfl rfl ?_
  refine ev_iload_n (pc := 36) (i := 2) dX9_gains_36 rfl rfl ?_
  refine ev_icmp_ne (pc := 37) (tgt := 49) dX9_gains_37 rfl hL rfl (fun hL => ?_) (fun hL => ?_)
  · refine ev_iload (pc := 40) dX9_gains_40 rfl ?_
    refine ev_iload_n (pc := 42) (i := 1) dX9_gains_42 rfl rfl ?_
    refine ev_icmp_ne (pc := 43) (tgt := 49) dX9_gains_43 rfl hL rfl (fun hL => ?_) (fun hL => ?_)
    · refine ev_iinc (pc := 46) dX9_gains_46 rfl (lnl_v rfl rfl) (Nat.le_of_ble_eq_true rfl) ?_
      refine ev_iload (pc := 49) dX9_gains_49 rfl ?_
      exact evB_iret (pc := 51) dX9_gains_51 rfl hL
    · refine ev_iload (pc := 49) dX9_gains_49 rfl ?_
      exact evB_iret (pc := 51) dX9_gains_51 rfl hL
  · refine ev_iload (pc := 49) dX9_gains_49 rfl ?_
    exact evB_iret (pc := 51) dX9_gains_51 rfl hL
set_option maxHeartbeats 1000000 in
set_option maxRecDepth 100000 in
theorem KCc_gains_b24 {ω : Wd} {z : Nat → Prop}  {h h' : Hp} {x1 x2 x3 x4 y0 r : Int}  (hL : Cc_gains_b24 h x1 x2 x3 x4 y0 = some (r, h')) : EvB ω N_Cc_gains 4 (QB (some (iV r)) z h') z h 24 [none, some (iV x1), some (iV x2), some (iV x3), some (iV x4), none] [iV y0] := by
  unfold Cc_gains_b24 at hL
  refine ev_istore (pc := 24) dX9_gains_24 (lnl_v rfl rfl) (Nat.le_of_ble_eq_true rfl) ?_
  refine ev_iload_n (pc := 26) (i := 3) dX9_gains_26 rfl rfl ?_
  refine ev_iload (pc := 27) dX9_gains_27 rfl ?_
  refine ev_icmp_ne (pc := 29) (tgt := 35) dX9_gains_29 rfl hL rfl (fun hL => ?_) (fun hL => ?_)
  · refine ev_iinc (pc := 32) dX9_gains_32 rfl (lnl_v rfl rfl) (Nat.le_of_ble_eq_true rfl) ?_
    exact ev_le (lvle_n (lvle_s (lvle_s (lvle_s (lvle_s (lvle_s lvle_z)))))) (KCc_gains_b35  hL)
  · exact ev_le (lvle_n (lvle_s (lvle_s (lvle_s (lvle_s (lvle_s lvle_z)))))) (KCc_gains_b35  hL)
set_option maxHeartbeats 1000000 in
set_option maxRecDepth 100000 in
theorem M_Cc_gains {ω : Wd} {z : Nat → Prop} {h h' : Hp} {a0 a1 a2 a3 a4 r : Int}  (hL : Cc_gains h a0 a1 a2 a3 a4 = some (r, h')) : CtB ω N_Cc_gains 4 [aV ω a0, iV a1, iV a2, iV a3, iV a4] z h (some (iV r)) h' := by
  unfold Cc_gains at hL
  refine Ct_of (lv := [some (aV ω a0), some (iV a1), some (iV a2), some (iV a3), some (iV a4), none]) (by decide) (Nat.le_trans (sl_1 (cat_aV _ _) (sl_1 (cat_iV _) (sl_1 (cat_iV _) (sl_1 (cat_iV _) (sl_1 (cat_iV _) sl_z))))) (Nat.le_of_ble_eq_true rfl)) (la_1 (cat_aV _ _) (la_1 (cat_iV _) (la_1 (cat_iV _) (la_1 (cat_iV _) (la_1 (cat_iV _) (la_n la_z)))))) ?_
  refine ev_iload_n (pc := 0) (i := 3) dX9_gains_0 rfl rfl ?_
  refine ev_iload_n (pc := 1) (i := 1) dX9_gains_1 rfl rfl ?_
  refine ev_icmp_eq (pc := 2) (tgt := 13) dX9_gains_2 rfl hL rfl (fun hL => ?_) (fun hL => ?_)
  · refine ev_bipush (pc := 13) dX9_gains_13 (by decide) ?_
    refine ev_goto (pc := 15) (tgt := 24) dX9_gains_15 rfl ?_
    exact ev_le (lvle_n (lvle_s (lvle_s (lvle_s (lvle_s (lvle_n lvle_z)))))) (KCc_gains_b24  hL)
  · refine ev_aload_n (pc := 5) (i := 0) dX9_gains_5 rfl rfl ?_
    refine ev_iload_n (pc := 6) (i := 3) dX9_gains_6 rfl rfl ?_
    obtain ⟨hs1, hL⟩ := cC_un hL
    obtain ⟨r2, h3, hc4, hL⟩ := cl_un hL
    refine evB_callV_I (pc := 7) (M_Cc_isPerson hc4) dX9_gains_7 mt_Cc_isPerson st_Cc_isPerson ml_Cc_132 hs1 (by decide) ⟨_, rfl, rfl⟩ (Nat.le_of_ble_eq_true rfl) rfl rfl (Nat.le_trans sm_z (by decide)) ?_
    refine ev_if_ne (pc := 10) (tgt := 18) dX9_gains_10 rfl hL rfl (fun hL => ?_) (fun hL => ?_)
    · refine ev_bipush (pc := 13) dX9_gains_13 (by decide) ?_
      refine ev_goto (pc := 15) (tgt := 24) dX9_gains_15 rfl ?_
      exact ev_le (lvle_n (lvle_s (lvle_s (lvle_s (lvle_s (lvle_n lvle_z)))))) (KCc_gains_b24  hL)
    · refine ev_aload_n (pc := 18) (i := 0) dX9_gains_18 rfl rfl ?_
      refine ev_iload_n (pc := 19) (i := 1) dX9_gains_19 rfl rfl ?_
      refine ev_iload_n (pc := 20) (i := 3) dX9_gains_20 rfl rfl ?_
      obtain ⟨r5, h6, hc7, hL⟩ := cl_un hL
      refine evB_callV_I (pc := 21) (M_Cc_liking hc7) dX9_gains_21 mt_Cc_liking st_Cc_liking ml_Cc_429 hs1 (by decide) ⟨_, rfl, rfl⟩ (Nat.le_of_ble_eq_true rfl) rfl rfl (Nat.le_trans sm_z (by decide)) ?_
      exact ev_le (lvle_n (lvle_s (lvle_s (lvle_s (lvle_s (lvle_n lvle_z)))))) (KCc_gains_b24  hL)
set_option maxHeartbeats 1000000 in
set_option maxRecDepth 100000 in
theorem M_Cc_game {ω : Wd} {z : Nat → Prop} {h h' : Hp} {a0 a1 a2 a3 a4 a5 r : Int}  (hL : Cc_game h a0 a1 a2 a3 a4 a5 = some (r, h')) : CtB ω N_Cc_game 5 [aV ω a0, iV a1, iV a2, iV a3, iV a4, iV a5] z h (some (iV r)) h' := by
  unfold Cc_game at hL
  refine Ct_of (lv := [some (aV ω a0), some (iV a1), some (iV a2), some (iV a3), some (iV a4), some (iV a5)]) (by decide) (Nat.le_trans (sl_1 (cat_aV _ _) (sl_1 (cat_iV _) (sl_1 (cat_iV _) (sl_1 (cat_iV _) (sl_1 (cat_iV _) (sl_1 (cat_iV _) sl_z)))))) (Nat.le_of_ble_eq_true rfl)) (la_1 (cat_aV _ _) (la_1 (cat_iV _) (la_1 (cat_iV _) (la_1 (cat_iV _) (la_1 (cat_iV _) (la_1 (cat_iV _) la_z)))))) ?_
  refine ev_aload_n (pc := 0) (i := 0) dX9_game_0 rfl rfl ?_
  refine ev_iload_n (pc := 1) (i := 1) dX9_game_1 rfl rfl ?_
  refine ev_iload_n (pc := 2) (i := 2) dX9_game_2 rfl rfl ?_
  obtain ⟨hs1, hL⟩ := cC_un hL
  obtain ⟨r2, h3, hc4, hL⟩ := cl_un hL
  refine evB_callV_I (pc := 3) (M_Cc_areTwo hc4) dX9_game_3 mt_Cc_areTwo st_Cc_areTwo ml_Cc_205 hs1 (by decide) ⟨_, rfl, rfl⟩ (Nat.le_of_ble_eq_true rfl) rfl rfl (Nat.le_trans sm_z (by decide)) ?_
  refine ev_if_eq (pc := 6) (tgt := 31) dX9_game_6 rfl hL rfl (fun hL => ?_) (fun hL => ?_)
  · refine ev_ldc (pc := 31) (x := (-1000000)) dX9_game_31 w_c_Cc_249 ?_
    exact evB_iret (pc := 33) dX9_game_33 rfl hL
  · refine ev_iload_n (pc := 9) (i := 3) dX9_game_9 rfl rfl ?_
    refine ev_if_lt (pc := 10) (tgt := 31) dX9_game_10 rfl hL rfl (fun hL => ?_) (fun hL => ?_)
    · refine ev_ldc (pc := 31) (x := (-1000000)) dX9_game_31 w_c_Cc_249 ?_
      exact evB_iret (pc := 33) dX9_game_33 rfl hL
    · refine ev_iload_n (pc := 13) (i := 3) dX9_game_13 rfl rfl ?_
      refine ev_bipush (pc := 14) dX9_game_14 (by decide) ?_
      refine ev_icmp_ge (pc := 16) (tgt := 31) dX9_game_16 rfl hL rfl (fun hL => ?_) (fun hL => ?_)
      · refine ev_iload (pc := 19) dX9_game_19 rfl ?_
        refine ev_if_lt (pc := 21) (tgt := 31) dX9_game_21 rfl hL rfl (fun hL => ?_) (fun hL => ?_)
        · refine ev_ldc (pc := 31) (x := (-1000000)) dX9_game_31 w_c_Cc_249 ?_
          exact evB_iret (pc := 33) dX9_game_33 rfl hL
        · refine ev_iload (pc := 24) dX9_game_24 rfl ?_
          refine ev_bipush (pc := 26) dX9_game_26 (by decide) ?_
          refine ev_icmp_lt (pc := 28) (tgt := 34) dX9_game_28 rfl hL rfl (fun hL => ?_) (fun hL => ?_)
          · refine ev_iload (pc := 34) dX9_game_34 rfl ?_
            rcases ite_un hL with ⟨hx, hL⟩ | ⟨hx8, hL⟩
            · refine evB_lsw (pc := 36) (tgt := 64) dX9_game_36 (by decide) (by rw [hx]) rfl ?_
              refine ev_aload_n (pc := 64) (i := 0) dX9_game_64 rfl rfl ?_
              refine ev_iload_n (pc := 65) (i := 1) dX9_game_65 rfl rfl ?_
              refine ev_iload_n (pc := 66) (i := 2) dX9_game_66 rfl rfl ?_
              refine ev_iload_n (pc := 67) (i := 3) dX9_game_67 rfl rfl ?_
              refine ev_iload (pc := 68) dX9_game_68 rfl ?_
              obtain ⟨r5, h6, hc7, hL⟩ := cl_un hL
              refine evB_callV_I (pc := 70) (M_Cc_gains hc7) dX9_game_70 mt_Cc_gains st_Cc_gains ml_Cc_342 hs1 (by decide) ⟨_, rfl, rfl⟩ (Nat.le_of_ble_eq_true rfl) rfl rfl (Nat.le_trans sm_z (by decide)) ?_
              exact evB_iret (pc := 73) dX9_game_73 rfl hL
            · rcases ite_un hL with ⟨hx, hL⟩ | ⟨hx12, hL⟩
              · refine evB_lsw (pc := 36) (tgt := 74) dX9_game_36 (by decide) (by rw [hx]) rfl ?_
                refine ev_aload_n (pc := 74) (i := 0) dX9_game_74 rfl rfl ?_
                refine ev_iload_n (pc := 75) (i := 2) dX9_game_75 rfl rfl ?_
                refine ev_iload_n (pc := 76) (i := 1) dX9_game_76 rfl rfl ?_
                refine ev_iload (pc := 77) dX9_game_77 rfl ?_
                refine ev_iload_n (pc := 79) (i := 3) dX9_game_79 rfl rfl ?_
                obtain ⟨r9, h10, hc11, hL⟩ := cl_un hL
                refine evB_callV_I (pc := 80) (M_Cc_gains hc11) dX9_game_80 mt_Cc_gains st_Cc_gains ml_Cc_342 hs1 (by decide) ⟨_, rfl, rfl⟩ (Nat.le_of_ble_eq_true rfl) rfl rfl (Nat.le_trans sm_z (by decide)) ?_
                exact evB_iret (pc := 83) dX9_game_83 rfl hL
              · refine evB_lsw (pc := 36) (tgt := 84) (off := 48) dX9_game_36 (by decide) (by simp [Op.lookupswitch.offset, Ne.symm hx8, Ne.symm hx12]) rfl ?_
                refine ev_ldc (pc := 84) (x := (-1000000)) dX9_game_84 w_c_Cc_249 ?_
                exact evB_iret (pc := 86) dX9_game_86 rfl hL
          · refine ev_ldc (pc := 31) (x := (-1000000)) dX9_game_31 w_c_Cc_249 ?_
            exact evB_iret (pc := 33) dX9_game_33 rfl hL
      · refine ev_ldc (pc := 31) (x := (-1000000)) dX9_game_31 w_c_Cc_249 ?_
        exact evB_iret (pc := 33) dX9_game_33 rfl hL
set_option maxHeartbeats 1000000 in
set_option maxRecDepth 100000 in
theorem M_Cc_give {ω : Wd} {z : Nat → Prop} {h h' : Hp} {a0 a1 r : Int}  (hL : Cc_give h a0 a1 = some (r, h')) : CtB ω N_Cc_give 4 [aV ω a0, iV a1] z h (some (iV r)) h' := by
  unfold Cc_give at hL
  refine Ct_of (lv := [some (aV ω a0), some (iV a1)]) (by decide) (Nat.le_trans (sl_1 (cat_aV _ _) (sl_1 (cat_iV _) sl_z)) (Nat.le_of_ble_eq_true rfl)) (la_1 (cat_aV _ _) (la_1 (cat_iV _) la_z)) ?_
  refine ev_aload_n (pc := 0) (i := 0) dX9_give_0 rfl rfl ?_
  obtain ⟨hs1, hL⟩ := cC_un hL
  obtain ⟨r2, h3, hc4, hL⟩ := cl_un hL
  refine evB_callV_I (pc := 1) (M_Cc_isTold hc4) dX9_give_1 mt_Cc_isTold st_Cc_isTold ml_Cc_223 hs1 (by decide) ⟨_, rfl, rfl⟩ (Nat.le_of_ble_eq_true rfl) rfl rfl (Nat.le_trans sm_z (by decide)) ?_
  refine ev_if_eq (pc := 4) (tgt := 33) dX9_give_4 rfl hL rfl (fun hL => ?_) (fun hL => ?_)
  · refine ev_iconst (pc := 33) dX9_give_33 ?_
    exact evB_iret (pc := 34) dX9_give_34 rfl hL
  · refine ev_iload_n (pc := 7) (i := 1) dX9_give_7 rfl rfl ?_
    refine ev_iconst (pc := 8) dX9_give_8 ?_
    refine ev_icmp_lt (pc := 9) (tgt := 33) dX9_give_9 rfl hL rfl (fun hL => ?_) (fun hL => ?_)
    · refine ev_iconst (pc := 33) dX9_give_33 ?_
      exact evB_iret (pc := 34) dX9_give_34 rfl hL
    · refine ev_iload_n (pc := 12) (i := 1) dX9_give_12 rfl rfl ?_
      refine ev_bipush (pc := 13) dX9_give_13 (by decide) ?_
      refine ev_icmp_gt (pc := 15) (tgt := 33) dX9_give_15 rfl hL rfl (fun hL => ?_) (fun hL => ?_)
      · refine ev_iconst (pc := 33) dX9_give_33 ?_
        exact evB_iret (pc := 34) dX9_give_34 rfl hL
      · refine ev_aload_n (pc := 18) (i := 0) dX9_give_18 rfl rfl ?_
        refine ev_get (pc := 19) (c9 := 9) (k9 := 10) dX9_give_19 fl_Cc_58 (by decide) hs1 (gv9_10 hs1) ?_
        obtain ⟨hs5, hL⟩ := cC_un hL
        refine ev_get (pc := 22) (c9 := 7) (k9 := 6) dX9_give_22 fl_Cc_209 (by decide) hs5 gv7_6 ?_
        refine ev_iload_n (pc := 25) (i := 1) dX9_give_25 rfl rfl ?_
        refine ev_iadd (pc := 26) dX9_give_26 ?_
        refine ev_sipush (pc := 27) dX9_give_27 (by decide) ?_
        refine ev_icmp_le (pc := 30) (tgt := 35) dX9_give_30 rfl hL rfl (fun hL => ?_) (fun hL => ?_)
        · refine ev_iconst (pc := 33) dX9_give_33 ?_
          exact evB_iret (pc := 34) dX9_give_34 rfl hL
        · refine ev_aload_n (pc := 35) (i := 0) dX9_give_35 rfl rfl ?_
          refine ev_get (pc := 36) (c9 := 9) (k9 := 14) dX9_give_36 fl_Cc_75 (by decide) hs1 (gv9_14 hs1) ?_
          refine ev_aload_n (pc := 39) (i := 0) dX9_give_39 rfl rfl ?_
          refine ev_get (pc := 40) (c9 := 9) (k9 := 10) dX9_give_40 fl_Cc_58 (by decide) hs1 (gv9_10 hs1) ?_
          obtain ⟨hs6, hL⟩ := cC_un hL
          obtain ⟨r7, h8, hc9, hL⟩ := cl_un hL
          refine evB_callV_V (pc := 43) (M_Ps_offer hc9) dX9_give_43 mt_Ps_offer st_Ps_offer ml_Cc_173 hs6 (by decide) ⟨_, rfl, rfl⟩ (Nat.le_of_ble_eq_true rfl) rfl rfl (Nat.le_trans sm_z (by decide)) ?_
          refine ev_aload_n (pc := 46) (i := 0) dX9_give_46 rfl rfl ?_
          refine ev_get (pc := 47) (c9 := 9) (k9 := 14) dX9_give_47 fl_Cc_75 (by decide) hs1 (gv9_14 hs1) ?_
          obtain ⟨r10, h11, hc12, hL⟩ := cl_un hL
          refine evB_callV_V (pc := 50) (M_Ps_keep hc12) dX9_give_50 mt_Ps_keep st_Ps_keep ml_Cc_181 hs6 (by decide) ⟨_, rfl, rfl⟩ (Nat.le_of_ble_eq_true rfl) rfl rfl (Nat.le_trans sm_z (by decide)) ?_
          refine ev_aload_n (pc := 53) (i := 0) dX9_give_53 rfl rfl ?_
          refine ev_get (pc := 54) (c9 := 9) (k9 := 10) dX9_give_54 fl_Cc_58 (by decide) hs1 (gv9_10 hs1) ?_
          refine ev_dup (pc := 57) dX9_give_57 (cat_aV _ _) ?_
          refine ev_get (pc := 58) (c9 := 7) (k9 := 6) dX9_give_58 fl_Cc_209 (by decide) hs5 gv7_6 ?_
          refine ev_iload_n (pc := 61) (i := 1) dX9_give_61 rfl rfl ?_
          refine ev_iadd (pc := 62) dX9_give_62 ?_
          refine evB_putI (pc := 63) (c9 := 7) (k9 := 6) (kI := 6) dX9_give_63 fl_Cc_209 hs5 (by decide) (fun q hq => by cases hq; rfl) rfl rfl rfl ?_
          refine ev_puG hL (fun h13 hL => ?_)
          refine ev_aload_n (pc := 66) (i := 0) dX9_give_66 rfl rfl ?_
          refine ev_get (pc := 67) (c9 := 9) (k9 := 10) dX9_give_67 fl_Cc_58 (by decide) hs1 (gv9_10 hs1) ?_
          refine ev_get (pc := 70) (c9 := 7) (k9 := 6) dX9_give_70 fl_Cc_209 (by decide) hs5 gv7_6 ?_
          exact evB_iret (pc := 73) dX9_give_73 rfl hL
set_option maxHeartbeats 1000000 in
set_option maxRecDepth 100000 in
theorem M_Gv_add {ω : Wd} {z : Nat → Prop} {h h' : Hp} {a0 a1 a2 a3 r : Int}  (hL : Gv_add h a0 a1 a2 a3 = some (r, h')) : CtB ω N_Gv_add 1 [aV ω a0, iV a1, iV a2, iV a3] z h none h' := by
  unfold Gv_add at hL
  refine Ct_of (lv := [some (aV ω a0), some (iV a1), some (iV a2), some (iV a3)]) (by decide) (Nat.le_trans (sl_1 (cat_aV _ _) (sl_1 (cat_iV _) (sl_1 (cat_iV _) (sl_1 (cat_iV _) sl_z)))) (Nat.le_of_ble_eq_true rfl)) (la_1 (cat_aV _ _) (la_1 (cat_iV _) (la_1 (cat_iV _) (la_1 (cat_iV _) la_z)))) ?_
  refine ev_aload_n (pc := 0) (i := 0) dX1_add_0 rfl rfl ?_
  obtain ⟨hs1, hL⟩ := cC_un hL
  refine ev_get (pc := 1) (c9 := 1) (k9 := 4) dX1_add_1 fl_Gv_25 (by decide) hs1 gv1_4 ?_
  refine ev_if_lt (pc := 4) (tgt := 56) dX1_add_4 rfl hL rfl (fun hL => ?_) (fun hL => ?_)
  · exact evB_vret (pc := 56) dX1_add_56 rfl hL
  · refine ev_aload_n (pc := 7) (i := 0) dX1_add_7 rfl rfl ?_
    refine ev_get (pc := 8) (c9 := 1) (k9 := 4) dX1_add_8 fl_Gv_25 (by decide) hs1 gv1_4 ?_
    refine ev_bipush (pc := 11) dX1_add_11 (by decide) ?_
    refine ev_icmp_ge (pc := 13) (tgt := 56) dX1_add_13 rfl hL rfl (fun hL => ?_) (fun hL => ?_)
    · refine ev_aload_n (pc := 16) (i := 0) dX1_add_16 rfl rfl ?_
      refine ev_get (pc := 17) (c9 := 1) (k9 := 0) dX1_add_17 fl_Gv_9 (by decide) hs1 (gv1_0 hs1) ?_
      refine ev_aload_n (pc := 20) (i := 0) dX1_add_20 rfl rfl ?_
      refine ev_get (pc := 21) (c9 := 1) (k9 := 4) dX1_add_21 fl_Gv_25 (by decide) hs1 gv1_4 ?_
      refine ev_iload_n (pc := 24) (i := 1) dX1_add_24 rfl rfl ?_
      obtain ⟨q2a, q2d, q2b, q2c, hL⟩ := cY_un hL
      refine ev_iast (pc := 25) dX1_add_25 q2a q2d q2b q2c ?_
      refine ev_puG hL (fun h3 hL => ?_)
      refine ev_aload_n (pc := 26) (i := 0) dX1_add_26 rfl rfl ?_
      refine ev_get (pc := 27) (c9 := 1) (k9 := 1) dX1_add_27 fl_Gv_15 (by decide) hs1 (gv1_1 hs1) ?_
      refine ev_aload_n (pc := 30) (i := 0) dX1_add_30 rfl rfl ?_
      refine ev_get (pc := 31) (c9 := 1) (k9 := 4) dX1_add_31 fl_Gv_25 (by decide) hs1 gv1_4 ?_
      refine ev_iload_n (pc := 34) (i := 2) dX1_add_34 rfl rfl ?_
      obtain ⟨q4a, q4d, q4b, q4c, hL⟩ := cY_un hL
      refine ev_iast (pc := 35) dX1_add_35 q4a q4d q4b q4c ?_
      refine ev_puG hL (fun h5 hL => ?_)
      refine ev_aload_n (pc := 36) (i := 0) dX1_add_36 rfl rfl ?_
      refine ev_get (pc := 37) (c9 := 1) (k9 := 2) dX1_add_37 fl_Gv_18 (by decide) hs1 (gv1_2 hs1) ?_
      refine ev_aload_n (pc := 40) (i := 0) dX1_add_40 rfl rfl ?_
      refine ev_get (pc := 41) (c9 := 1) (k9 := 4) dX1_add_41 fl_Gv_25 (by decide) hs1 gv1_4 ?_
      refine ev_iload_n (pc := 44) (i := 3) dX1_add_44 rfl rfl ?_
      obtain ⟨q6a, q6d, q6b, q6c, hL⟩ := cY_un hL
      refine ev_zast (pc := 45) dX1_add_45 q6a q6d q6b q6c ?_
      refine ev_puG hL (fun h7 hL => ?_)
      refine ev_aload_n (pc := 46) (i := 0) dX1_add_46 rfl rfl ?_
      refine ev_dup (pc := 47) dX1_add_47 (cat_aV _ _) ?_
      refine ev_get (pc := 48) (c9 := 1) (k9 := 4) dX1_add_48 fl_Gv_25 (by decide) hs1 gv1_4 ?_
      refine ev_iconst (pc := 51) dX1_add_51 ?_
      refine ev_iadd (pc := 52) dX1_add_52 ?_
      refine evB_putI (pc := 53) (c9 := 1) (k9 := 4) (kI := 4) dX1_add_53 fl_Gv_25 hs1 (by decide) (fun q hq => by cases hq; rfl) rfl rfl rfl ?_
      refine ev_puG hL (fun h8 hL => ?_)
      exact evB_vret (pc := 56) dX1_add_56 rfl hL
    · exact evB_vret (pc := 56) dX1_add_56 rfl hL
set_option maxHeartbeats 1000000 in
set_option maxRecDepth 100000 in
theorem M_Cc_given {ω : Wd} {z : Nat → Prop} {h h' : Hp} {a0 a1 a2 a3 r : Int}  (hL : Cc_given h a0 a1 a2 a3 = some (r, h')) : CtB ω N_Cc_given 2 [aV ω a0, iV a1, iV a2, iV a3] z h (some (iV r)) h' := by
  unfold Cc_given at hL
  refine Ct_of (lv := [some (aV ω a0), some (iV a1), some (iV a2), some (iV a3)]) (by decide) (Nat.le_trans (sl_1 (cat_aV _ _) (sl_1 (cat_iV _) (sl_1 (cat_iV _) (sl_1 (cat_iV _) sl_z)))) (Nat.le_of_ble_eq_true rfl)) (la_1 (cat_aV _ _) (la_1 (cat_iV _) (la_1 (cat_iV _) (la_1 (cat_iV _) la_z)))) ?_
  refine ev_aload_n (pc := 0) (i := 0) dX9_given_0 rfl rfl ?_
  refine ev_iload_n (pc := 1) (i := 1) dX9_given_1 rfl rfl ?_
  obtain ⟨hs1, hL⟩ := cC_un hL
  obtain ⟨r2, h3, hc4, hL⟩ := cl_un hL
  refine evB_callV_I (pc := 2) (M_Cc_isWrong hc4) dX9_given_2 mt_Cc_isWrong st_Cc_isWrong ml_Cc_154 hs1 (by decide) ⟨_, rfl, rfl⟩ (Nat.le_of_ble_eq_true rfl) rfl rfl (Nat.le_trans sm_z (by decide)) ?_
  refine ev_if_eq (pc := 5) (tgt := 31) dX9_given_5 rfl hL rfl (fun hL => ?_) (fun hL => ?_)
  · refine ev_iconst (pc := 31) dX9_given_31 ?_
    exact evB_iret (pc := 32) dX9_given_32 rfl hL
  · refine ev_iload_n (pc := 8) (i := 2) dX9_given_8 rfl rfl ?_
    refine ev_iconst (pc := 9) dX9_given_9 ?_
    refine ev_icmp_lt (pc := 10) (tgt := 31) dX9_given_10 rfl hL rfl (fun hL => ?_) (fun hL => ?_)
    · refine ev_iconst (pc := 31) dX9_given_31 ?_
      exact evB_iret (pc := 32) dX9_given_32 rfl hL
    · refine ev_iload_n (pc := 13) (i := 2) dX9_given_13 rfl rfl ?_
      refine ev_bipush (pc := 14) dX9_given_14 (by decide) ?_
      refine ev_icmp_gt (pc := 16) (tgt := 31) dX9_given_16 rfl hL rfl (fun hL => ?_) (fun hL => ?_)
      · refine ev_iconst (pc := 31) dX9_given_31 ?_
        exact evB_iret (pc := 32) dX9_given_32 rfl hL
      · refine ev_aload_n (pc := 19) (i := 0) dX9_given_19 rfl rfl ?_
        refine ev_get (pc := 20) (c9 := 9) (k9 := 16) dX9_given_20 fl_Cc_89 (by decide) hs1 (gv9_16 hs1) ?_
        obtain ⟨hs5, hL⟩ := cC_un hL
        refine ev_get (pc := 23) (c9 := 1) (k9 := 4) dX9_given_23 fl_Cc_323 (by decide) hs5 gv1_4 ?_
        refine ev_bipush (pc := 26) dX9_given_26 (by decide) ?_
        refine ev_icmp_lt (pc := 28) (tgt := 33) dX9_given_28 rfl hL rfl (fun hL => ?_) (fun hL => ?_)
        · refine ev_aload_n (pc := 33) (i := 0) dX9_given_33 rfl rfl ?_
          refine ev_get (pc := 34) (c9 := 9) (k9 := 16) dX9_given_34 fl_Cc_89 (by decide) hs1 (gv9_16 hs1) ?_
          refine ev_iload_n (pc := 37) (i := 1) dX9_given_37 rfl rfl ?_
          refine ev_iload_n (pc := 38) (i := 2) dX9_given_38 rfl rfl ?_
          refine ev_iload_n (pc := 39) (i := 3) dX9_given_39 rfl rfl ?_
          obtain ⟨r6, h7, hc8, hL⟩ := cl_un hL
          refine evB_callV_V (pc := 40) (M_Gv_add hc8) dX9_given_40 mt_Gv_add st_Gv_add ml_Cc_324 hs5 (by decide) ⟨_, rfl, rfl⟩ (Nat.le_of_ble_eq_true rfl) rfl rfl (Nat.le_trans sm_z (by decide)) ?_
          refine ev_aload_n (pc := 43) (i := 0) dX9_given_43 rfl rfl ?_
          refine ev_get (pc := 44) (c9 := 9) (k9 := 16) dX9_given_44 fl_Cc_89 (by decide) hs1 (gv9_16 hs1) ?_
          refine ev_get (pc := 47) (c9 := 1) (k9 := 4) dX9_given_47 fl_Cc_323 (by decide) hs5 gv1_4 ?_
          exact evB_iret (pc := 50) dX9_given_50 rfl hL
        · refine ev_iconst (pc := 31) dX9_given_31 ?_
          exact evB_iret (pc := 32) dX9_given_32 rfl hL
set_option maxHeartbeats 1000000 in
set_option maxRecDepth 100000 in
theorem KCc_graves_b21_body {ω : Wd} {z : Nat → Prop}  {k21 : Hp × Int × Int × Int × Int → Option (Int × Hp)} {h h' : Hp} {x0 x2 x3 x4 r : Int}  (hk21 : ∀ s o, k21 s = some o → EvB ω N_Cc_graves 6 (QB (some (iV o.1)) z o.2) z s.1 21 [some (aV ω s.2.1), none, some (iV s.2.2.1), some (iV s.2.2.2.1), some (iV s.2.2.2.2)] []) (hL : Cc_graves_b21_body  k21 h x0 x2 x3 x4 = some (r, h')) : EvB ω N_Cc_graves 6 (QB (some (iV r)) z h') z h 21 [some (aV ω x0), none, some (iV x2), some (iV x3), some (iV x4)] [] := by
  unfold Cc_graves_b21_body at hL
  refine ev_iload (pc := 21) dX9_graves_21 rfl ?_
  refine ev_bipush (pc := 23) dX9_graves_23 (by decide) ?_
  refine ev_icmp_gt (pc := 25) (tgt := 60) dX9_graves_25 rfl hL rfl (fun hL => ?_) (fun hL => ?_)
  · refine ev_iload_n (pc := 60) (i := 2) dX9_graves_60 rfl rfl ?_
    refine ev_iconst (pc := 61) dX9_graves_61 ?_
    refine ev_icmp_ne (pc := 62) (tgt := 69) dX9_graves_62 rfl hL rfl (fun hL => ?_) (fun hL => ?_)
    · refine ev_iload_n (pc := 65) (i := 3) dX9_graves_65 rfl rfl ?_
      refine ev_goto (pc := 66) (tgt := 70) dX9_graves_66 rfl ?_
      exact evB_iret (pc := 70) dX9_graves_70 rfl hL
    · refine ev_iconst (pc := 69) dX9_graves_69 ?_
      exact evB_iret (pc := 70) dX9_graves_70 rfl hL
  · refine ev_aload_n (pc := 28) (i := 0) dX9_graves_28 rfl rfl ?_
    obtain ⟨hs8, hL⟩ := cC_un hL
    refine ev_get (pc := 29) (c9 := 9) (k9 := 16) dX9_graves_29 fl_Cc_89 (by decide) hs8 (gv9_16 hs8) ?_
    obtain ⟨hs9, hL⟩ := cC_un hL
    refine ev_get (pc := 32) (c9 := 1) (k9 := 3) dX9_graves_32 fl_Cc_330 (by decide) hs9 (gv1_3 hs9) ?_
    refine ev_iload (pc := 35) dX9_graves_35 rfl ?_
    obtain ⟨r10, h11, hc12, hL⟩ := cl_un hL
    refine evB_callS_I (pc := 37) (M_Cc_at hc12) dX9_graves_37 mt_Cc_at st_Cc_at ml_Cc_333 (Nat.le_of_ble_eq_true rfl) rfl rfl (Nat.le_trans sm_z (by decide)) ?_
    refine ev_if_le (pc := 40) (tgt := 54) dX9_graves_40 rfl hL rfl (fun hL => ?_) (fun hL => ?_)
    · refine ev_iload_n (pc := 43) (i := 3) dX9_graves_43 rfl rfl ?_
      refine ev_iload_n (pc := 44) (i := 2) dX9_graves_44 rfl rfl ?_
      refine ev_icmp_ne (pc := 45) (tgt := 51) dX9_graves_45 rfl hL rfl (fun hL => ?_) (fun hL => ?_)
      · refine ev_iload (pc := 48) dX9_graves_48 rfl ?_
        exact evB_iret (pc := 50) dX9_graves_50 rfl hL
      · refine ev_iinc (pc := 51) dX9_graves_51 rfl (lnl_v rfl rfl) (Nat.le_of_ble_eq_true rfl) ?_
        refine ev_iinc (pc := 54) dX9_graves_54 rfl (lnl_v rfl rfl) (Nat.le_of_ble_eq_true rfl) ?_
        refine ev_goto (pc := 57) (tgt := 21) dX9_graves_57 rfl ?_
        exact ev_le (lvle_s (lvle_n (lvle_s (lvle_s (lvle_s lvle_z))))) (hk21 _ _ hL)
    · refine ev_iinc (pc := 54) dX9_graves_54 rfl (lnl_v rfl rfl) (Nat.le_of_ble_eq_true rfl) ?_
      refine ev_goto (pc := 57) (tgt := 21) dX9_graves_57 rfl ?_
      exact ev_le (lvle_s (lvle_n (lvle_s (lvle_s (lvle_s lvle_z))))) (hk21 _ _ hL)
set_option maxHeartbeats 1000000 in
set_option maxRecDepth 100000 in
theorem KCc_graves_b21 {ω : Wd} {z : Nat → Prop}  {h h' : Hp} {x0 x2 x3 x4 r : Int}  (hL : Cc_graves_b21 h x0 x2 x3 x4 = some (r, h')) : EvB ω N_Cc_graves 6 (QB (some (iV r)) z h') z h 21 [some (aV ω x0), none, some (iV x2), some (iV x3), some (iV x4)] [] := by
  unfold Cc_graves_b21 at hL
  refine itr_link (P := fun (s : Hp × Int × Int × Int × Int) (o : Int × Hp) => EvB ω N_Cc_graves 6 (QB (some (iV o.1)) z o.2) z s.1 21 [some (aV ω s.2.1), none, some (iV s.2.2.1), some (iV s.2.2.2.1), some (iV s.2.2.2.2)] []) ?_ _ _ _ hL
  intro k hk s o h9
  have h10 := KCc_graves_b21_body (ω := ω) (z := z) (k21 := k) (h := s.1) (x0 := s.2.1) (x2 := s.2.2.1) (x3 := s.2.2.2.1) (x4 := s.2.2.2.2) (r := o.1) (h' := o.2) 
  exact h10 hk h9
set_option maxHeartbeats 1000000 in
set_option maxRecDepth 100000 in
theorem M_Cc_graves {ω : Wd} {z : Nat → Prop} {h h' : Hp} {a0 a1 a2 r : Int}  (hL : Cc_graves h a0 a1 a2 = some (r, h')) : CtB ω N_Cc_graves 6 [aV ω a0, iV a1, iV a2] z h (some (iV r)) h' := by
  unfold Cc_graves at hL
  refine Ct_of (lv := [some (aV ω a0), some (iV a1), some (iV a2), none, none]) (by decide) (Nat.le_trans (sl_1 (cat_aV _ _) (sl_1 (cat_iV _) (sl_1 (cat_iV _) sl_z))) (Nat.le_of_ble_eq_true rfl)) (la_1 (cat_aV _ _) (la_1 (cat_iV _) (la_1 (cat_iV _) (la_n (la_n la_z))))) ?_
  refine ev_aload_n (pc := 0) (i := 0) dX9_graves_0 rfl rfl ?_
  refine ev_iload_n (pc := 1) (i := 1) dX9_graves_1 rfl rfl ?_
  obtain ⟨hs1, hL⟩ := cC_un hL
  obtain ⟨r2, h3, hc4, hL⟩ := cl_un hL
  refine evB_callV_I (pc := 2) (M_Cc_isWrong hc4) dX9_graves_2 mt_Cc_isWrong st_Cc_isWrong ml_Cc_154 hs1 (by decide) ⟨_, rfl, rfl⟩ (Nat.le_of_ble_eq_true rfl) rfl rfl (Nat.le_trans sm_z (by decide)) ?_
  refine ev_if_ne (pc := 5) (tgt := 10) dX9_graves_5 rfl hL rfl (fun hL => ?_) (fun hL => ?_)
  · refine ev_iconst (pc := 8) dX9_graves_8 ?_
    exact evB_iret (pc := 9) dX9_graves_9 rfl hL
  · refine ev_aload_n (pc := 10) (i := 0) dX9_graves_10 rfl rfl ?_
    refine ev_iload_n (pc := 11) (i := 1) dX9_graves_11 rfl rfl ?_
    obtain ⟨r5, h6, hc7, hL⟩ := cl_un hL
    refine evB_callV_I (pc := 12) (M_Cc_fit hc7) dX9_graves_12 mt_Cc_fit st_Cc_fit ml_Cc_327 hs1 (by decide) ⟨_, rfl, rfl⟩ (Nat.le_of_ble_eq_true rfl) rfl rfl (Nat.le_trans sm_z (by decide)) ?_
    refine ev_pop (pc := 15) dX9_graves_15 rfl ?_
    refine ev_iconst (pc := 16) dX9_graves_16 ?_
    refine ev_istore_n (pc := 17) (i := 3) dX9_graves_17 rfl (lnl_v rfl rfl) (Nat.le_of_ble_eq_true rfl) ?_
    refine ev_iconst (pc := 18) dX9_graves_18 ?_
    refine ev_istore (pc := 19) dX9_graves_19 (lnl_v rfl rfl) (Nat.le_of_ble_eq_true rfl) ?_
    exact ev_le (lvle_s (lvle_n (lvle_s (lvle_s (lvle_s lvle_z))))) (KCc_graves_b21  hL)
set_option maxHeartbeats 1000000 in
set_option maxRecDepth 100000 in
theorem KLg_keep_b2_body {ω : Wd} {z : Nat → Prop}  {k2 : Hp × Int × Int × Int → Option (Int × Hp)} {h h' : Hp} {x0 x1 x2 r : Int}  (hk2 : ∀ s o, k2 s = some o → EvB ω N_Lg_keep 2 (QB none z o.2) z s.1 2 [some (aV ω s.2.1), some (aV ω s.2.2.1), some (iV s.2.2.2)] []) (hL : Lg_keep_b2_body  k2 h x0 x1 x2 = some (r, h')) : EvB ω N_Lg_keep 2 (QB none z h') z h 2 [some (aV ω x0), some (aV ω x1), some (iV x2)] [] := by
  unfold Lg_keep_b2_body at hL
  refine ev_iload_n (pc := 2) (i := 2) dX3_keep_2 rfl rfl ?_
  refine ev_bipush (pc := 3) dX3_keep_3 (by decide) ?_
  refine ev_icmp_ge (pc := 5) (tgt := 35) dX3_keep_5 rfl hL rfl (fun hL => ?_) (fun hL => ?_)
  · refine ev_aload_n (pc := 8) (i := 0) dX3_keep_8 rfl rfl ?_
    obtain ⟨hs1, hL⟩ := cC_un hL
    refine ev_get (pc := 9) (c9 := 3) (k9 := 1) dX3_keep_9 fl_Lg_15 (by decide) hs1 (gv3_1 hs1) ?_
    refine ev_iload_n (pc := 12) (i := 2) dX3_keep_12 rfl rfl ?_
    refine ev_aload_n (pc := 13) (i := 0) dX3_keep_13 rfl rfl ?_
    refine ev_get (pc := 14) (c9 := 3) (k9 := 0) dX3_keep_14 fl_Lg_9 (by decide) hs1 (gv3_0 hs1) ?_
    refine ev_aload_n (pc := 17) (i := 1) dX3_keep_17 rfl rfl ?_
    obtain ⟨hs2, hL⟩ := cC_un hL
    refine ev_get (pc := 18) (c9 := 7) (k9 := 8) dX3_keep_18 fl_Lg_18 (by decide) hs2 gv7_8 ?_
    refine ev_iload_n (pc := 21) (i := 2) dX3_keep_21 rfl rfl ?_
    refine ev_isub (pc := 22) dX3_keep_22 ?_
    obtain ⟨r3, h4, hc5, hL⟩ := cl_un hL
    refine evB_callS_I (pc := 23) (M_Cc_at hc5) dX3_keep_23 mt_Cc_at st_Cc_at ml_Lg_44 (Nat.le_of_ble_eq_true rfl) rfl rfl (Nat.le_trans (sm_1 (cat_iV _) (sm_1 (cat_aV _ _) sm_z)) (by decide)) ?_
    obtain ⟨r6, h7, hc8, hL⟩ := cl_un hL
    refine evB_callS_V (pc := 26) (M_Cc_put hc8) dX3_keep_26 mt_Cc_put st_Cc_put ml_Lg_40 (Nat.le_of_ble_eq_true rfl) rfl rfl (Nat.le_trans sm_z (by decide)) ?_
    refine ev_iinc (pc := 29) dX3_keep_29 rfl (lnl_v (cat_aV _ _) rfl) (Nat.le_of_ble_eq_true rfl) ?_
    refine ev_goto (pc := 32) (tgt := 2) dX3_keep_32 rfl ?_
    exact ev_le (lvle_s (lvle_s (lvle_s lvle_z))) (hk2 _ _ hL)
  · exact evB_vret (pc := 35) dX3_keep_35 rfl hL
set_option maxHeartbeats 1000000 in
set_option maxRecDepth 100000 in
theorem KLg_keep_b2 {ω : Wd} {z : Nat → Prop}  {h h' : Hp} {x0 x1 x2 r : Int}  (hL : Lg_keep_b2 h x0 x1 x2 = some (r, h')) : EvB ω N_Lg_keep 2 (QB none z h') z h 2 [some (aV ω x0), some (aV ω x1), some (iV x2)] [] := by
  unfold Lg_keep_b2 at hL
  refine itr_link (P := fun (s : Hp × Int × Int × Int) (o : Int × Hp) => EvB ω N_Lg_keep 2 (QB none z o.2) z s.1 2 [some (aV ω s.2.1), some (aV ω s.2.2.1), some (iV s.2.2.2)] []) ?_ _ _ _ hL
  intro k hk s o h9
  have h10 := KLg_keep_b2_body (ω := ω) (z := z) (k2 := k) (h := s.1) (x0 := s.2.1) (x1 := s.2.2.1) (x2 := s.2.2.2) (r := o.1) (h' := o.2) 
  exact h10 hk h9
set_option maxHeartbeats 1000000 in
set_option maxRecDepth 100000 in
theorem M_Lg_keep {ω : Wd} {z : Nat → Prop} {h h' : Hp} {a0 a1 r : Int}  (hL : Lg_keep h a0 a1 = some (r, h')) : CtB ω N_Lg_keep 2 [aV ω a0, aV ω a1] z h none h' := by
  unfold Lg_keep at hL
  refine Ct_of (lv := [some (aV ω a0), some (aV ω a1), none]) (by decide) (Nat.le_trans (sl_1 (cat_aV _ _) (sl_1 (cat_aV _ _) sl_z)) (Nat.le_of_ble_eq_true rfl)) (la_1 (cat_aV _ _) (la_1 (cat_aV _ _) (la_n la_z))) ?_
  refine ev_iconst (pc := 0) dX3_keep_0 ?_
  refine ev_istore_n (pc := 1) (i := 2) dX3_keep_1 rfl (lnl_v (cat_aV _ _) rfl) (Nat.le_of_ble_eq_true rfl) ?_
  exact ev_le (lvle_s (lvle_s (lvle_s lvle_z))) (KLg_keep_b2  hL)
set_option maxHeartbeats 1000000 in
set_option maxRecDepth 100000 in
theorem M_Cc_image {ω : Wd} {z : Nat → Prop} {h h' : Hp} {a0 r : Int}  (hL : Cc_image h a0 = some (r, h')) : CtB ω N_Cc_image 3 [aV ω a0] z h (some (iV r)) h' := by
  unfold Cc_image at hL
  refine Ct_of (lv := [some (aV ω a0)]) (by decide) (Nat.le_trans (sl_1 (cat_aV _ _) sl_z) (Nat.le_of_ble_eq_true rfl)) (la_1 (cat_aV _ _) la_z) ?_
  refine ev_aload_n (pc := 0) (i := 0) dX9_image_0 rfl rfl ?_
  obtain ⟨hs1, hL⟩ := cC_un hL
  obtain ⟨r2, h3, hc4, hL⟩ := cl_un hL
  refine evB_callV_I (pc := 1) (M_Cc_isTold hc4) dX9_image_1 mt_Cc_isTold st_Cc_isTold ml_Cc_223 hs1 (by decide) ⟨_, rfl, rfl⟩ (Nat.le_of_ble_eq_true rfl) rfl rfl (Nat.le_trans sm_z (by decide)) ?_
  refine ev_if_ne (pc := 4) (tgt := 9) dX9_image_4 rfl hL rfl (fun hL => ?_) (fun hL => ?_)
  · refine ev_iconst (pc := 7) dX9_image_7 ?_
    exact evB_iret (pc := 8) dX9_image_8 rfl hL
  · refine ev_aload_n (pc := 9) (i := 0) dX9_image_9 rfl rfl ?_
    refine ev_get (pc := 10) (c9 := 9) (k9 := 11) dX9_image_10 fl_Cc_61 (by decide) hs1 (gv9_11 hs1) ?_
    refine ev_aload_n (pc := 13) (i := 0) dX9_image_13 rfl rfl ?_
    refine ev_get (pc := 14) (c9 := 9) (k9 := 10) dX9_image_14 fl_Cc_58 (by decide) hs1 (gv9_10 hs1) ?_
    obtain ⟨hs5, hL⟩ := cC_un hL
    obtain ⟨r6, h7, hc8, hL⟩ := cl_un hL
    refine evB_callV_V (pc := 17) (M_St_copy hc8) dX9_image_17 mt_St_copy st_St_copy ml_Cc_262 hs5 (by decide) ⟨_, rfl, rfl⟩ (Nat.le_of_ble_eq_true rfl) rfl rfl (Nat.le_trans sm_z (by decide)) ?_
    refine ev_aload_n (pc := 20) (i := 0) dX9_image_20 rfl rfl ?_
    refine ev_get (pc := 21) (c9 := 9) (k9 := 15) dX9_image_21 fl_Cc_82 (by decide) hs1 (gv9_15 hs1) ?_
    refine ev_aload_n (pc := 24) (i := 0) dX9_image_24 rfl rfl ?_
    refine ev_get (pc := 25) (c9 := 9) (k9 := 10) dX9_image_25 fl_Cc_58 (by decide) hs1 (gv9_10 hs1) ?_
    obtain ⟨hs9, hL⟩ := cC_un hL
    obtain ⟨r10, h11, hc12, hL⟩ := cl_un hL
    refine evB_callV_V (pc := 28) (M_Lg_keep hc12) dX9_image_28 mt_Lg_keep st_Lg_keep ml_Cc_383 hs9 (by decide) ⟨_, rfl, rfl⟩ (Nat.le_of_ble_eq_true rfl) rfl rfl (Nat.le_trans sm_z (by decide)) ?_
    refine ev_aload_n (pc := 31) (i := 0) dX9_image_31 rfl rfl ?_
    refine ev_iconst (pc := 32) dX9_image_32 ?_
    refine evB_putZ (pc := 33) (c9 := 9) (k9 := 12) (kI := 12) dX9_image_33 fl_Cc_64 hs1 (by decide) (fun q hq => by cases hq; rfl) rfl rfl (by decide) rfl ?_
    refine ev_puG hL (fun h13 hL => ?_)
    refine ev_aload_n (pc := 36) (i := 0) dX9_image_36 rfl rfl ?_
    refine ev_get (pc := 37) (c9 := 9) (k9 := 10) dX9_image_37 fl_Cc_58 (by decide) hs1 (gv9_10 hs1) ?_
    obtain ⟨hs14, hL⟩ := cC_un hL
    refine ev_get (pc := 40) (c9 := 7) (k9 := 8) dX9_image_40 fl_Cc_227 (by decide) hs14 gv7_8 ?_
    exact evB_iret (pc := 43) dX9_image_43 rfl hL
set_option maxHeartbeats 1000000 in
set_option maxRecDepth 100000 in
theorem KCc_isBest_b14_body {ω : Wd} {z : Nat → Prop}  {k14 : Hp × Int × Int × Int × Int × Int × Int → Option (Int × Hp)} {h h' : Hp} {x0 x1 x2 x4 x5 x6 r : Int}  (hk14 : ∀ s o, k14 s = some o → EvB ω N_Cc_isBest 5 (QB (some (iV o.1)) z o.2) z s.1 14 [some (aV ω s.2.1), some (iV s.2.2.1), some (iV s.2.2.2.1), none, some (iV s.2.2.2.2.1), some (iV s.2.2.2.2.2.1), some (iV s.2.2.2.2.2.2)] []) (hL : Cc_isBest_b14_body  k14 h x0 x1 x2 x4 x5 x6 = some (r, h')) : EvB ω N_Cc_isBest 5 (QB (some (iV r)) z h') z h 14 [some (aV ω x0), some (iV x1), some (iV x2), none, some (iV x4), some (iV x5), some (iV x6)] [] := by
  unfold Cc_isBest_b14_body at hL
  refine ev_iload (pc := 14) dX9_isBest_14 rfl ?_
  refine ev_aload_n (pc := 16) (i := 0) dX9_isBest_16 rfl rfl ?_
  obtain ⟨hs5, hL⟩ := cC_un hL
  refine ev_get (pc := 17) (c9 := 9) (k9 := 10) dX9_isBest_17 fl_Cc_58 (by decide) hs5 (gv9_10 hs5) ?_
  obtain ⟨hs6, hL⟩ := cC_un hL
  refine ev_get (pc := 20) (c9 := 7) (k9 := 4) dX9_isBest_20 fl_Cc_282 (by decide) hs6 gv7_4 ?_
  refine ev_icmp_ge (pc := 23) (tgt := 49) dX9_isBest_23 rfl hL rfl (fun hL => ?_) (fun hL => ?_)
  · refine ev_aload_n (pc := 26) (i := 0) dX9_isBest_26 rfl rfl ?_
    refine ev_iload_n (pc := 27) (i := 1) dX9_isBest_27 rfl rfl ?_
    refine ev_iload_n (pc := 28) (i := 2) dX9_isBest_28 rfl rfl ?_
    refine ev_iload (pc := 29) dX9_isBest_29 rfl ?_
    refine ev_iload (pc := 31) dX9_isBest_31 rfl ?_
    obtain ⟨r7, h8, hc9, hL⟩ := cl_un hL
    refine evB_callV_I (pc := 33) (M_Cc_gains hc9) dX9_isBest_33 mt_Cc_gains st_Cc_gains ml_Cc_342 hs5 (by decide) ⟨_, rfl, rfl⟩ (Nat.le_of_ble_eq_true rfl) rfl rfl (Nat.le_trans sm_z (by decide)) ?_
    refine ev_iload (pc := 36) dX9_isBest_36 rfl ?_
    refine ev_icmp_le (pc := 38) (tgt := 43) dX9_isBest_38 rfl hL rfl (fun hL => ?_) (fun hL => ?_)
    · refine ev_iconst (pc := 41) dX9_isBest_41 ?_
      exact evB_zret (pc := 42) dX9_isBest_42 rfl rfl hL
    · refine ev_iinc (pc := 43) dX9_isBest_43 rfl (lnl_v rfl rfl) (Nat.le_of_ble_eq_true rfl) ?_
      refine ev_goto (pc := 46) (tgt := 14) dX9_isBest_46 rfl ?_
      exact ev_le (lvle_s (lvle_s (lvle_s (lvle_n (lvle_s (lvle_s (lvle_s lvle_z))))))) (hk14 _ _ hL)
  · refine ev_iconst (pc := 49) dX9_isBest_49 ?_
    exact evB_zret (pc := 50) dX9_isBest_50 rfl rfl hL
set_option maxHeartbeats 1000000 in
set_option maxRecDepth 100000 in
theorem KCc_isBest_b14 {ω : Wd} {z : Nat → Prop}  {h h' : Hp} {x0 x1 x2 x4 x5 x6 r : Int}  (hL : Cc_isBest_b14 h x0 x1 x2 x4 x5 x6 = some (r, h')) : EvB ω N_Cc_isBest 5 (QB (some (iV r)) z h') z h 14 [some (aV ω x0), some (iV x1), some (iV x2), none, some (iV x4), some (iV x5), some (iV x6)] [] := by
  unfold Cc_isBest_b14 at hL
  refine itr_link (P := fun (s : Hp × Int × Int × Int × Int × Int × Int) (o : Int × Hp) => EvB ω N_Cc_isBest 5 (QB (some (iV o.1)) z o.2) z s.1 14 [some (aV ω s.2.1), some (iV s.2.2.1), some (iV s.2.2.2.1), none, some (iV s.2.2.2.2.1), some (iV s.2.2.2.2.2.1), some (iV s.2.2.2.2.2.2)] []) ?_ _ _ _ hL
  intro k hk s o h9
  have h10 := KCc_isBest_b14_body (ω := ω) (z := z) (k14 := k) (h := s.1) (x0 := s.2.1) (x1 := s.2.2.1) (x2 := s.2.2.2.1) (x4 := s.2.2.2.2.1) (x5 := s.2.2.2.2.2.1) (x6 := s.2.2.2.2.2.2) (r := o.1) (h' := o.2) 
  exact h10 hk h9
set_option maxHeartbeats 1000000 in
set_option maxRecDepth 100000 in
theorem M_Cc_isBest {ω : Wd} {z : Nat → Prop} {h h' : Hp} {a0 a1 a2 a3 a4 r : Int}  (hL : Cc_isBest h a0 a1 a2 a3 a4 = some (r, h')) : CtB ω N_Cc_isBest 5 [aV ω a0, iV a1, iV a2, iV a3, iV a4] z h (some (iV r)) h' := by
  unfold Cc_isBest at hL
  refine Ct_of (lv := [some (aV ω a0), some (iV a1), some (iV a2), some (iV a3), some (iV a4), none, none]) (by decide) (Nat.le_trans (sl_1 (cat_aV _ _) (sl_1 (cat_iV _) (sl_1 (cat_iV _) (sl_1 (cat_iV _) (sl_1 (cat_iV _) sl_z))))) (Nat.le_of_ble_eq_true rfl)) (la_1 (cat_aV _ _) (la_1 (cat_iV _) (la_1 (cat_iV _) (la_1 (cat_iV _) (la_1 (cat_iV _) (la_n (la_n la_z))))))) ?_
  refine ev_aload_n (pc := 0) (i := 0) dX9_isBest_0 rfl rfl ?_
  refine ev_iload_n (pc := 1) (i := 1) dX9_isBest_1 rfl rfl ?_
  refine ev_iload_n (pc := 2) (i := 2) dX9_isBest_2 rfl rfl ?_
  refine ev_iload_n (pc := 3) (i := 3) dX9_isBest_3 rfl rfl ?_
  refine ev_iload (pc := 4) dX9_isBest_4 rfl ?_
  obtain ⟨hs1, hL⟩ := cC_un hL
  obtain ⟨r2, h3, hc4, hL⟩ := cl_un hL
  refine evB_callV_I (pc := 6) (M_Cc_gains hc4) dX9_isBest_6 mt_Cc_gains st_Cc_gains ml_Cc_342 hs1 (by decide) ⟨_, rfl, rfl⟩ (Nat.le_of_ble_eq_true rfl) rfl rfl (Nat.le_trans sm_z (by decide)) ?_
  refine ev_istore (pc := 9) dX9_isBest_9 (lnl_v rfl rfl) (Nat.le_of_ble_eq_true rfl) ?_
  refine ev_iconst (pc := 11) dX9_isBest_11 ?_
  refine ev_istore (pc := 12) dX9_isBest_12 (lnl_v rfl rfl) (Nat.le_of_ble_eq_true rfl) ?_
  exact ev_le (lvle_s (lvle_s (lvle_s (lvle_n (lvle_s (lvle_s (lvle_s lvle_z))))))) (KCc_isBest_b14  hL)
set_option maxHeartbeats 1000000 in
set_option maxRecDepth 100000 in
theorem M_Cc_isSession {ω : Wd} {z : Nat → Prop} {h h' : Hp} {a0 a1 r : Int}  (hL : Cc_isSession h a0 a1 = some (r, h')) : CtB ω N_Cc_isSession 1 [aV ω a0, iV a1] z h (some (iV r)) h' := by
  unfold Cc_isSession at hL
  refine Ct_of (lv := [some (aV ω a0), some (iV a1)]) (by decide) (Nat.le_trans (sl_1 (cat_aV _ _) (sl_1 (cat_iV _) sl_z)) (Nat.le_of_ble_eq_true rfl)) (la_1 (cat_aV _ _) (la_1 (cat_iV _) la_z)) ?_
  refine ev_iload_n (pc := 0) (i := 1) dX9_isSession_0 rfl rfl ?_
  refine ev_if_lt (pc := 1) (tgt := 16) dX9_isSession_1 rfl hL rfl (fun hL => ?_) (fun hL => ?_)
  · refine ev_iconst (pc := 16) dX9_isSession_16 ?_
    exact evB_zret (pc := 17) dX9_isSession_17 rfl rfl hL
  · refine ev_iload_n (pc := 4) (i := 1) dX9_isSession_4 rfl rfl ?_
    refine ev_aload_n (pc := 5) (i := 0) dX9_isSession_5 rfl rfl ?_
    obtain ⟨hs1, hL⟩ := cC_un hL
    refine ev_get (pc := 6) (c9 := 9) (k9 := 7) dX9_isSession_6 fl_Cc_45 (by decide) hs1 gv9_7 ?_
    refine ev_icmp_ge (pc := 9) (tgt := 16) dX9_isSession_9 rfl hL rfl (fun hL => ?_) (fun hL => ?_)
    · refine ev_iconst (pc := 12) dX9_isSession_12 ?_
      refine ev_goto (pc := 13) (tgt := 17) dX9_isSession_13 rfl ?_
      exact evB_zret (pc := 17) dX9_isSession_17 rfl rfl hL
    · refine ev_iconst (pc := 16) dX9_isSession_16 ?_
      exact evB_zret (pc := 17) dX9_isSession_17 rfl rfl hL
set_option maxHeartbeats 1000000 in
set_option maxRecDepth 100000 in
theorem M_Cc_law {ω : Wd} {z : Nat → Prop} {h h' : Hp} {a0 a1 r : Int}  (hL : Cc_law h a0 a1 = some (r, h')) : CtB ω N_Cc_law 1 [aV ω a0, iV a1] z h (some (iV r)) h' := by
  unfold Cc_law at hL
  refine Ct_of (lv := [some (aV ω a0), some (iV a1)]) (by decide) (Nat.le_trans (sl_1 (cat_aV _ _) (sl_1 (cat_iV _) sl_z)) (Nat.le_of_ble_eq_true rfl)) (la_1 (cat_aV _ _) (la_1 (cat_iV _) la_z)) ?_
  refine ev_iload_n (pc := 0) (i := 1) dX9_law_0 rfl rfl ?_
  refine ev_iconst (pc := 1) dX9_law_1 ?_
  refine ev_icmp_lt (pc := 2) (tgt := 13) dX9_law_2 rfl hL rfl (fun hL => ?_) (fun hL => ?_)
  · refine ev_iconst (pc := 13) dX9_law_13 ?_
    exact evB_zret (pc := 14) dX9_law_14 rfl rfl hL
  · refine ev_iload_n (pc := 5) (i := 1) dX9_law_5 rfl rfl ?_
    refine ev_aload_n (pc := 6) (i := 0) dX9_law_6 rfl rfl ?_
    obtain ⟨hs1, hL⟩ := cC_un hL
    refine ev_get (pc := 7) (c9 := 9) (k9 := 5) dX9_law_7 fl_Cc_38 (by decide) hs1 gv9_5 ?_
    refine ev_icmp_lt (pc := 10) (tgt := 15) dX9_law_10 rfl hL rfl (fun hL => ?_) (fun hL => ?_)
    · refine ev_aload_n (pc := 15) (i := 0) dX9_law_15 rfl rfl ?_
      refine ev_iload_n (pc := 16) (i := 1) dX9_law_16 rfl rfl ?_
      refine evB_putI (pc := 17) (c9 := 9) (k9 := 6) (kI := 6) dX9_law_17 fl_Cc_42 hs1 (by decide) (fun q hq => by cases hq; rfl) rfl rfl rfl ?_
      refine ev_puG hL (fun h2 hL => ?_)
      refine ev_iconst (pc := 20) dX9_law_20 ?_
      exact evB_zret (pc := 21) dX9_law_21 rfl rfl hL
    · refine ev_iconst (pc := 13) dX9_law_13 ?_
      exact evB_zret (pc := 14) dX9_law_14 rfl rfl hL
set_option maxHeartbeats 1000000 in
set_option maxRecDepth 100000 in
theorem M_Lg_read {ω : Wd} {z : Nat → Prop} {h h' : Hp} {a0 a1 a2 r : Int}  (hL : Lg_read h a0 a1 a2 = some (r, h')) : CtB ω N_Lg_read 2 [aV ω a0, iV a1, iV a2] z h (some (iV r)) h' := by
  unfold Lg_read at hL
  refine Ct_of (lv := [some (aV ω a0), some (iV a1), some (iV a2), none]) (by decide) (Nat.le_trans (sl_1 (cat_aV _ _) (sl_1 (cat_iV _) (sl_1 (cat_iV _) sl_z))) (Nat.le_of_ble_eq_true rfl)) (la_1 (cat_aV _ _) (la_1 (cat_iV _) (la_1 (cat_iV _) (la_n la_z)))) ?_
  refine ev_aload_n (pc := 0) (i := 0) dX3_read_0 rfl rfl ?_
  obtain ⟨hs1, hL⟩ := cC_un hL
  refine ev_get (pc := 1) (c9 := 3) (k9 := 0) dX3_read_1 fl_Lg_9 (by decide) hs1 (gv3_0 hs1) ?_
  refine ev_iload_n (pc := 4) (i := 1) dX3_read_4 rfl rfl ?_
  obtain ⟨r2, h3, hc4, hL⟩ := cl_un hL
  refine evB_callS_I (pc := 5) (M_Cc_at hc4) dX3_read_5 mt_Cc_at st_Cc_at ml_Lg_44 (Nat.le_of_ble_eq_true rfl) rfl rfl (Nat.le_trans sm_z (by decide)) ?_
  refine ev_istore_n (pc := 8) (i := 3) dX3_read_8 rfl (lnl_v rfl rfl) (Nat.le_of_ble_eq_true rfl) ?_
  refine ev_iload_n (pc := 9) (i := 2) dX3_read_9 rfl rfl ?_
  rcases ite_un hL with ⟨hx, hL⟩ | ⟨hx5, hL⟩
  · refine evB_tswIn (pc := 10) (tgt := 36) dX3_read_10 hx (by decide) (by decide) rfl rfl ?_
    refine ev_iload_n (pc := 36) (i := 3) dX3_read_36 rfl rfl ?_
    refine ev_bipush (pc := 37) dX3_read_37 (by decide) ?_
    refine ev_iand (pc := 39) dX3_read_39 ?_
    exact evB_iret (pc := 40) dX3_read_40 rfl hL
  · rcases ite_un hL with ⟨hx, hL⟩ | ⟨hx6, hL⟩
    · refine evB_tswIn (pc := 10) (tgt := 41) dX3_read_10 hx (by decide) (by decide) rfl rfl ?_
      refine ev_iload_n (pc := 41) (i := 3) dX3_read_41 rfl rfl ?_
      refine ev_iconst (pc := 42) dX3_read_42 ?_
      refine ev_ishr (pc := 43) dX3_read_43 ?_
      refine ev_bipush (pc := 44) dX3_read_44 (by decide) ?_
      refine ev_iand (pc := 46) dX3_read_46 ?_
      exact evB_iret (pc := 47) dX3_read_47 rfl hL
    · rcases ite_un hL with ⟨hx, hL⟩ | ⟨hx7, hL⟩
      · refine evB_tswIn (pc := 10) (tgt := 48) dX3_read_10 hx (by decide) (by decide) rfl rfl ?_
        refine ev_iload_n (pc := 48) (i := 3) dX3_read_48 rfl rfl ?_
        refine ev_bipush (pc := 49) dX3_read_49 (by decide) ?_
        refine ev_ishr (pc := 51) dX3_read_51 ?_
        exact evB_iret (pc := 52) dX3_read_52 rfl hL
      · refine evB_tswOut (pc := 10) (tgt := 53) dX3_read_10 (by omega) rfl ?_
        refine ev_iconst (pc := 53) dX3_read_53 ?_
        exact evB_iret (pc := 54) dX3_read_54 rfl hL
set_option maxHeartbeats 1000000 in
set_option maxRecDepth 100000 in
theorem M_Cc_log {ω : Wd} {z : Nat → Prop} {h h' : Hp} {a0 a1 a2 r : Int}  (hL : Cc_log h a0 a1 a2 = some (r, h')) : CtB ω N_Cc_log 3 [aV ω a0, iV a1, iV a2] z h (some (iV r)) h' := by
  unfold Cc_log at hL
  refine Ct_of (lv := [some (aV ω a0), some (iV a1), some (iV a2)]) (by decide) (Nat.le_trans (sl_1 (cat_aV _ _) (sl_1 (cat_iV _) (sl_1 (cat_iV _) sl_z))) (Nat.le_of_ble_eq_true rfl)) (la_1 (cat_aV _ _) (la_1 (cat_iV _) (la_1 (cat_iV _) la_z))) ?_
  refine ev_iload_n (pc := 0) (i := 1) dX9_log_0 rfl rfl ?_
  refine ev_if_lt (pc := 1) (tgt := 15) dX9_log_1 rfl hL rfl (fun hL => ?_) (fun hL => ?_)
  · refine ev_iconst (pc := 15) dX9_log_15 ?_
    exact evB_iret (pc := 16) dX9_log_16 rfl hL
  · refine ev_iload_n (pc := 4) (i := 1) dX9_log_4 rfl rfl ?_
    refine ev_aload_n (pc := 5) (i := 0) dX9_log_5 rfl rfl ?_
    obtain ⟨hs1, hL⟩ := cC_un hL
    refine ev_get (pc := 6) (c9 := 9) (k9 := 10) dX9_log_6 fl_Cc_58 (by decide) hs1 (gv9_10 hs1) ?_
    obtain ⟨r2, h3, hc4, hL⟩ := cl_un hL
    refine evB_callS_I (pc := 9) (M_Lg_lengthAt hc4) dX9_log_9 mt_Lg_lengthAt st_Lg_lengthAt ml_Cc_240 (Nat.le_of_ble_eq_true rfl) rfl rfl (Nat.le_trans (sm_1 (cat_iV _) sm_z) (by decide)) ?_
    refine ev_icmp_lt (pc := 12) (tgt := 17) dX9_log_12 rfl hL rfl (fun hL => ?_) (fun hL => ?_)
    · refine ev_aload_n (pc := 17) (i := 0) dX9_log_17 rfl rfl ?_
      refine ev_get (pc := 18) (c9 := 9) (k9 := 15) dX9_log_18 fl_Cc_82 (by decide) hs1 (gv9_15 hs1) ?_
      refine ev_aload_n (pc := 21) (i := 0) dX9_log_21 rfl rfl ?_
      refine ev_get (pc := 22) (c9 := 9) (k9 := 10) dX9_log_22 fl_Cc_58 (by decide) hs1 (gv9_10 hs1) ?_
      obtain ⟨hs5, hL⟩ := cC_un hL
      refine ev_get (pc := 25) (c9 := 7) (k9 := 8) dX9_log_25 fl_Cc_227 (by decide) hs5 gv7_8 ?_
      refine ev_iload_n (pc := 28) (i := 1) dX9_log_28 rfl rfl ?_
      refine ev_isub (pc := 29) dX9_log_29 ?_
      refine ev_iload_n (pc := 30) (i := 2) dX9_log_30 rfl rfl ?_
      obtain ⟨hs6, hL⟩ := cC_un hL
      obtain ⟨r7, h8, hc9, hL⟩ := cl_un hL
      refine evB_callV_I (pc := 31) (M_Lg_read hc9) dX9_log_31 mt_Lg_read st_Lg_read ml_Cc_243 hs6 (by decide) ⟨_, rfl, rfl⟩ (Nat.le_of_ble_eq_true rfl) rfl rfl (Nat.le_trans sm_z (by decide)) ?_
      exact evB_iret (pc := 34) dX9_log_34 rfl hL
    · refine ev_iconst (pc := 15) dX9_log_15 ?_
      exact evB_iret (pc := 16) dX9_log_16 rfl hL
set_option maxHeartbeats 1000000 in
set_option maxRecDepth 100000 in
theorem KCc_lonelinessGone_b4_body {ω : Wd} {z : Nat → Prop}  {k4 : Hp × Int × Int × Int × Int → Option (Int × Hp)} {h h' : Hp} {x0 x1 x2 x3 r : Int}  (hk4 : ∀ s o, k4 s = some o → EvB ω N_Cc_lonelinessGone 3 (QB (some (iV o.1)) z o.2) z s.1 4 [some (aV ω s.2.1), some (aV ω s.2.2.1), some (iV s.2.2.2.1), some (iV s.2.2.2.2), none] []) (hL : Cc_lonelinessGone_b4_body  k4 h x0 x1 x2 x3 = some (r, h')) : EvB ω N_Cc_lonelinessGone 3 (QB (some (iV r)) z h') z h 4 [some (aV ω x0), some (aV ω x1), some (iV x2), some (iV x3), none] [] := by
  unfold Cc_lonelinessGone_b4_body at hL
  refine ev_iload_n (pc := 4) (i := 3) dX9_lonelinessGone_4 rfl rfl ?_
  refine ev_aload_n (pc := 5) (i := 0) dX9_lonelinessGone_5 rfl rfl ?_
  obtain ⟨hs1, hL⟩ := cC_un hL
  refine ev_get (pc := 6) (c9 := 9) (k9 := 10) dX9_lonelinessGone_6 fl_Cc_58 (by decide) hs1 (gv9_10 hs1) ?_
  obtain ⟨hs2, hL⟩ := cC_un hL
  refine ev_get (pc := 9) (c9 := 7) (k9 := 4) dX9_lonelinessGone_9 fl_Cc_282 (by decide) hs2 gv7_4 ?_
  refine ev_icmp_ge (pc := 12) (tgt := 61) dX9_lonelinessGone_12 rfl hL rfl (fun hL => ?_) (fun hL => ?_)
  · refine ev_aload_n (pc := 15) (i := 1) dX9_lonelinessGone_15 rfl rfl ?_
    refine ev_iload_n (pc := 16) (i := 3) dX9_lonelinessGone_16 rfl rfl ?_
    obtain ⟨r3, h4, hc5, hL⟩ := cl_un hL
    refine evB_callS_I (pc := 17) (M_Cc_at hc5) dX9_lonelinessGone_17 mt_Cc_at st_Cc_at ml_Cc_333 (Nat.le_of_ble_eq_true rfl) rfl rfl (Nat.le_trans sm_z (by decide)) ?_
    refine ev_istore (pc := 20) dX9_lonelinessGone_20 (lnl_v rfl rfl) (Nat.le_of_ble_eq_true rfl) ?_
    refine ev_iload (pc := 22) dX9_lonelinessGone_22 rfl ?_
    refine ev_bipush (pc := 24) dX9_lonelinessGone_24 (by decide) ?_
    refine ev_icmp_eq (pc := 26) (tgt := 55) dX9_lonelinessGone_26 rfl hL rfl (fun hL => ?_) (fun hL => ?_)
    · refine ev_iinc (pc := 55) dX9_lonelinessGone_55 rfl (lnl_v rfl rfl) (Nat.le_of_ble_eq_true rfl) ?_
      refine ev_goto (pc := 58) (tgt := 4) dX9_lonelinessGone_58 rfl ?_
      exact ev_le (lvle_s (lvle_s (lvle_s (lvle_s (lvle_n lvle_z))))) (hk4 _ _ hL)
    · refine ev_aload_n (pc := 29) (i := 0) dX9_lonelinessGone_29 rfl rfl ?_
      refine ev_get (pc := 30) (c9 := 9) (k9 := 10) dX9_lonelinessGone_30 fl_Cc_58 (by decide) hs1 (gv9_10 hs1) ?_
      refine ev_iload_n (pc := 33) (i := 3) dX9_lonelinessGone_33 rfl rfl ?_
      refine ev_iload (pc := 34) dX9_lonelinessGone_34 rfl ?_
      obtain ⟨r6, h7, hc8, hL⟩ := cl_un hL
      refine evB_callV_I (pc := 36) (M_St_owes hc8) dX9_lonelinessGone_36 mt_St_owes st_St_owes ml_Cc_184 hs2 (by decide) ⟨_, rfl, rfl⟩ (Nat.le_of_ble_eq_true rfl) rfl rfl (Nat.le_trans sm_z (by decide)) ?_
      refine ev_if_ne (pc := 39) (tgt := 44) dX9_lonelinessGone_39 rfl hL rfl (fun hL => ?_) (fun hL => ?_)
      · refine ev_iconst (pc := 42) dX9_lonelinessGone_42 ?_
        exact evB_iret (pc := 43) dX9_lonelinessGone_43 rfl hL
      · refine ev_iload_n (pc := 44) (i := 2) dX9_lonelinessGone_44 rfl rfl ?_
        refine ev_aload_n (pc := 45) (i := 0) dX9_lonelinessGone_45 rfl rfl ?_
        refine ev_get (pc := 46) (c9 := 9) (k9 := 10) dX9_lonelinessGone_46 fl_Cc_58 (by decide) hs1 (gv9_10 hs1) ?_
        refine ev_iload_n (pc := 49) (i := 3) dX9_lonelinessGone_49 rfl rfl ?_
        obtain ⟨r9, h10, hc11, hL⟩ := cl_un hL
        refine evB_callV_I (pc := 50) (M_St_lonelyOf hc11) dX9_lonelinessGone_50 mt_St_lonelyOf st_St_lonelyOf ml_Cc_142 hs2 (by decide) ⟨_, rfl, rfl⟩ (Nat.le_of_ble_eq_true rfl) rfl rfl (Nat.le_trans (sm_1 (cat_iV _) sm_z) (by decide)) ?_
        refine ev_iadd (pc := 53) dX9_lonelinessGone_53 ?_
        refine ev_bdI hL (fun v12 hL => ?_)
        refine ev_istore_n (pc := 54) (i := 2) dX9_lonelinessGone_54 rfl (lnl_v (cat_aV _ _) rfl) (Nat.le_of_ble_eq_true rfl) ?_
        refine ev_iinc (pc := 55) dX9_lonelinessGone_55 rfl (lnl_v rfl rfl) (Nat.le_of_ble_eq_true rfl) ?_
        refine ev_goto (pc := 58) (tgt := 4) dX9_lonelinessGone_58 rfl ?_
        exact ev_le (lvle_s (lvle_s (lvle_s (lvle_s (lvle_n lvle_z))))) (hk4 _ _ hL)
  · refine ev_iload_n (pc := 61) (i := 2) dX9_lonelinessGone_61 rfl rfl ?_
    exact evB_iret (pc := 62) dX9_lonelinessGone_62 rfl hL
set_option maxHeartbeats 1000000 in
set_option maxRecDepth 100000 in
theorem KCc_lonelinessGone_b4 {ω : Wd} {z : Nat → Prop}  {h h' : Hp} {x0 x1 x2 x3 r : Int}  (hL : Cc_lonelinessGone_b4 h x0 x1 x2 x3 = some (r, h')) : EvB ω N_Cc_lonelinessGone 3 (QB (some (iV r)) z h') z h 4 [some (aV ω x0), some (aV ω x1), some (iV x2), some (iV x3), none] [] := by
  unfold Cc_lonelinessGone_b4 at hL
  refine itr_link (P := fun (s : Hp × Int × Int × Int × Int) (o : Int × Hp) => EvB ω N_Cc_lonelinessGone 3 (QB (some (iV o.1)) z o.2) z s.1 4 [some (aV ω s.2.1), some (aV ω s.2.2.1), some (iV s.2.2.2.1), some (iV s.2.2.2.2), none] []) ?_ _ _ _ hL
  intro k hk s o h9
  have h10 := KCc_lonelinessGone_b4_body (ω := ω) (z := z) (k4 := k) (h := s.1) (x0 := s.2.1) (x1 := s.2.2.1) (x2 := s.2.2.2.1) (x3 := s.2.2.2.2) (r := o.1) (h' := o.2) 
  exact h10 hk h9
set_option maxHeartbeats 1000000 in
set_option maxRecDepth 100000 in
theorem M_Cc_lonelinessGone {ω : Wd} {z : Nat → Prop} {h h' : Hp} {a0 a1 r : Int}  (hL : Cc_lonelinessGone h a0 a1 = some (r, h')) : CtB ω N_Cc_lonelinessGone 3 [aV ω a0, aV ω a1] z h (some (iV r)) h' := by
  unfold Cc_lonelinessGone at hL
  refine Ct_of (lv := [some (aV ω a0), some (aV ω a1), none, none, none]) (by decide) (Nat.le_trans (sl_1 (cat_aV _ _) (sl_1 (cat_aV _ _) sl_z)) (Nat.le_of_ble_eq_true rfl)) (la_1 (cat_aV _ _) (la_1 (cat_aV _ _) (la_n (la_n (la_n la_z))))) ?_
  refine ev_iconst (pc := 0) dX9_lonelinessGone_0 ?_
  refine ev_istore_n (pc := 1) (i := 2) dX9_lonelinessGone_1 rfl (lnl_v (cat_aV _ _) rfl) (Nat.le_of_ble_eq_true rfl) ?_
  refine ev_iconst (pc := 2) dX9_lonelinessGone_2 ?_
  refine ev_istore_n (pc := 3) (i := 3) dX9_lonelinessGone_3 rfl (lnl_v rfl rfl) (Nat.le_of_ble_eq_true rfl) ?_
  exact ev_le (lvle_s (lvle_s (lvle_s (lvle_s (lvle_n lvle_z))))) (KCc_lonelinessGone_b4  hL)
set_option maxHeartbeats 1000000 in
set_option maxRecDepth 100000 in
theorem M_Cc_lunch {ω : Wd} {z : Nat → Prop} {h h' : Hp} {a0 a1 a2 r : Int}  (hL : Cc_lunch h a0 a1 a2 = some (r, h')) : CtB ω N_Cc_lunch 4 [aV ω a0, iV a1, iV a2] z h (some (iV r)) h' := by
  unfold Cc_lunch at hL
  refine Ct_of (lv := [some (aV ω a0), some (iV a1), some (iV a2)]) (by decide) (Nat.le_trans (sl_1 (cat_aV _ _) (sl_1 (cat_iV _) (sl_1 (cat_iV _) sl_z))) (Nat.le_of_ble_eq_true rfl)) (la_1 (cat_aV _ _) (la_1 (cat_iV _) (la_1 (cat_iV _) la_z))) ?_
  refine ev_aload_n (pc := 0) (i := 0) dX9_lunch_0 rfl rfl ?_
  refine ev_iload_n (pc := 1) (i := 1) dX9_lunch_1 rfl rfl ?_
  refine ev_iload_n (pc := 2) (i := 2) dX9_lunch_2 rfl rfl ?_
  obtain ⟨hs1, hL⟩ := cC_un hL
  obtain ⟨r2, h3, hc4, hL⟩ := cl_un hL
  refine evB_callV_I (pc := 3) (M_Cc_areTwo hc4) dX9_lunch_3 mt_Cc_areTwo st_Cc_areTwo ml_Cc_205 hs1 (by decide) ⟨_, rfl, rfl⟩ (Nat.le_of_ble_eq_true rfl) rfl rfl (Nat.le_trans sm_z (by decide)) ?_
  refine ev_if_eq (pc := 6) (tgt := 40) dX9_lunch_6 rfl hL rfl (fun hL => ?_) (fun hL => ?_)
  · refine ev_iconst (pc := 40) dX9_lunch_40 ?_
    exact evB_iret (pc := 41) dX9_lunch_41 rfl hL
  · refine ev_aload_n (pc := 9) (i := 0) dX9_lunch_9 rfl rfl ?_
    refine ev_get (pc := 10) (c9 := 9) (k9 := 10) dX9_lunch_10 fl_Cc_58 (by decide) hs1 (gv9_10 hs1) ?_
    obtain ⟨hs5, hL⟩ := cC_un hL
    refine ev_get (pc := 13) (c9 := 7) (k9 := 6) dX9_lunch_13 fl_Cc_209 (by decide) hs5 gv7_6 ?_
    refine ev_iconst (pc := 16) dX9_lunch_16 ?_
    refine ev_icmp_lt (pc := 17) (tgt := 40) dX9_lunch_17 rfl hL rfl (fun hL => ?_) (fun hL => ?_)
    · refine ev_iconst (pc := 40) dX9_lunch_40 ?_
      exact evB_iret (pc := 41) dX9_lunch_41 rfl hL
    · refine ev_aload_n (pc := 20) (i := 0) dX9_lunch_20 rfl rfl ?_
      refine ev_get (pc := 21) (c9 := 9) (k9 := 10) dX9_lunch_21 fl_Cc_58 (by decide) hs1 (gv9_10 hs1) ?_
      refine ev_iload_n (pc := 24) (i := 1) dX9_lunch_24 rfl rfl ?_
      obtain ⟨r6, h7, hc8, hL⟩ := cl_un hL
      refine evB_callV_I (pc := 25) (M_St_lonelyOf hc8) dX9_lunch_25 mt_St_lonelyOf st_St_lonelyOf ml_Cc_142 hs5 (by decide) ⟨_, rfl, rfl⟩ (Nat.le_of_ble_eq_true rfl) rfl rfl (Nat.le_trans sm_z (by decide)) ?_
      refine ev_aload_n (pc := 28) (i := 0) dX9_lunch_28 rfl rfl ?_
      refine ev_get (pc := 29) (c9 := 9) (k9 := 10) dX9_lunch_29 fl_Cc_58 (by decide) hs1 (gv9_10 hs1) ?_
      refine ev_iload_n (pc := 32) (i := 2) dX9_lunch_32 rfl rfl ?_
      obtain ⟨r9, h10, hc11, hL⟩ := cl_un hL
      refine evB_callV_I (pc := 33) (M_St_lonelyOf hc11) dX9_lunch_33 mt_St_lonelyOf st_St_lonelyOf ml_Cc_142 hs5 (by decide) ⟨_, rfl, rfl⟩ (Nat.le_of_ble_eq_true rfl) rfl rfl (Nat.le_trans (sm_1 (cat_iV _) sm_z) (by decide)) ?_
      refine ev_iadd (pc := 36) dX9_lunch_36 ?_
      refine ev_if_ne (pc := 37) (tgt := 42) dX9_lunch_37 rfl hL rfl (fun hL => ?_) (fun hL => ?_)
      · refine ev_iconst (pc := 40) dX9_lunch_40 ?_
        exact evB_iret (pc := 41) dX9_lunch_41 rfl hL
      · refine ev_aload_n (pc := 42) (i := 0) dX9_lunch_42 rfl rfl ?_
        refine ev_get (pc := 43) (c9 := 9) (k9 := 14) dX9_lunch_43 fl_Cc_75 (by decide) hs1 (gv9_14 hs1) ?_
        refine ev_aload_n (pc := 46) (i := 0) dX9_lunch_46 rfl rfl ?_
        refine ev_get (pc := 47) (c9 := 9) (k9 := 10) dX9_lunch_47 fl_Cc_58 (by decide) hs1 (gv9_10 hs1) ?_
        obtain ⟨hs12, hL⟩ := cC_un hL
        obtain ⟨r13, h14, hc15, hL⟩ := cl_un hL
        refine evB_callV_V (pc := 50) (M_Ps_offer hc15) dX9_lunch_50 mt_Ps_offer st_Ps_offer ml_Cc_173 hs12 (by decide) ⟨_, rfl, rfl⟩ (Nat.le_of_ble_eq_true rfl) rfl rfl (Nat.le_trans sm_z (by decide)) ?_
        refine ev_aload_n (pc := 53) (i := 0) dX9_lunch_53 rfl rfl ?_
        refine ev_get (pc := 54) (c9 := 9) (k9 := 14) dX9_lunch_54 fl_Cc_75 (by decide) hs1 (gv9_14 hs1) ?_
        obtain ⟨r16, h17, hc18, hL⟩ := cl_un hL
        refine evB_callV_V (pc := 57) (M_Ps_keep hc18) dX9_lunch_57 mt_Ps_keep st_Ps_keep ml_Cc_181 hs12 (by decide) ⟨_, rfl, rfl⟩ (Nat.le_of_ble_eq_true rfl) rfl rfl (Nat.le_trans sm_z (by decide)) ?_
        refine ev_aload_n (pc := 60) (i := 0) dX9_lunch_60 rfl rfl ?_
        refine ev_get (pc := 61) (c9 := 9) (k9 := 10) dX9_lunch_61 fl_Cc_58 (by decide) hs1 (gv9_10 hs1) ?_
        refine ev_dup (pc := 64) dX9_lunch_64 (cat_aV _ _) ?_
        refine ev_get (pc := 65) (c9 := 7) (k9 := 6) dX9_lunch_65 fl_Cc_209 (by decide) hs5 gv7_6 ?_
        refine ev_iconst (pc := 68) dX9_lunch_68 ?_
        refine ev_isub (pc := 69) dX9_lunch_69 ?_
        refine evB_putI (pc := 70) (c9 := 7) (k9 := 6) (kI := 6) dX9_lunch_70 fl_Cc_209 hs5 (by decide) (fun q hq => by cases hq; rfl) rfl rfl rfl ?_
        refine ev_puG hL (fun h19 hL => ?_)
        refine ev_aload_n (pc := 73) (i := 0) dX9_lunch_73 rfl rfl ?_
        refine ev_get (pc := 74) (c9 := 9) (k9 := 10) dX9_lunch_74 fl_Cc_58 (by decide) hs1 (gv9_10 hs1) ?_
        refine ev_iload_n (pc := 77) (i := 1) dX9_lunch_77 rfl rfl ?_
        refine ev_iconst (pc := 78) dX9_lunch_78 ?_
        obtain ⟨r20, h21, hc22, hL⟩ := cl_un hL
        refine evB_callV_V (pc := 79) (M_St_cheer hc22) dX9_lunch_79 mt_St_cheer st_St_cheer ml_Cc_212 hs5 (by decide) ⟨_, rfl, rfl⟩ (Nat.le_of_ble_eq_true rfl) rfl rfl (Nat.le_trans sm_z (by decide)) ?_
        refine ev_aload_n (pc := 82) (i := 0) dX9_lunch_82 rfl rfl ?_
        refine ev_get (pc := 83) (c9 := 9) (k9 := 10) dX9_lunch_83 fl_Cc_58 (by decide) hs1 (gv9_10 hs1) ?_
        refine ev_iload_n (pc := 86) (i := 2) dX9_lunch_86 rfl rfl ?_
        refine ev_iconst (pc := 87) dX9_lunch_87 ?_
        obtain ⟨r23, h24, hc25, hL⟩ := cl_un hL
        refine evB_callV_V (pc := 88) (M_St_cheer hc25) dX9_lunch_88 mt_St_cheer st_St_cheer ml_Cc_212 hs5 (by decide) ⟨_, rfl, rfl⟩ (Nat.le_of_ble_eq_true rfl) rfl rfl (Nat.le_trans sm_z (by decide)) ?_
        refine ev_aload_n (pc := 91) (i := 0) dX9_lunch_91 rfl rfl ?_
        refine ev_get (pc := 92) (c9 := 9) (k9 := 10) dX9_lunch_92 fl_Cc_58 (by decide) hs1 (gv9_10 hs1) ?_
        refine ev_iload_n (pc := 95) (i := 1) dX9_lunch_95 rfl rfl ?_
        obtain ⟨r26, h27, hc28, hL⟩ := cl_un hL
        refine evB_callV_I (pc := 96) (M_St_lonelyOf hc28) dX9_lunch_96 mt_St_lonelyOf st_St_lonelyOf ml_Cc_142 hs5 (by decide) ⟨_, rfl, rfl⟩ (Nat.le_of_ble_eq_true rfl) rfl rfl (Nat.le_trans sm_z (by decide)) ?_
        exact evB_iret (pc := 99) dX9_lunch_99 rfl hL
set_option maxHeartbeats 1000000 in
set_option maxRecDepth 100000 in
theorem KCc_matched_b25_body {ω : Wd} {z : Nat → Prop}  {k25 : Hp × Int × Int × Int × Int × Int → Option (Int × Hp)} {h h' : Hp} {x0 x1 x2 x3 x4 r : Int}  (hk25 : ∀ s o, k25 s = some o → EvB ω N_Cc_matched 4 (QB (some (iV o.1)) z o.2) z s.1 25 [some (aV ω s.2.1), some (iV s.2.2.1), some (iV s.2.2.2.1), some (iV s.2.2.2.2.1), some (iV s.2.2.2.2.2), none] []) (hL : Cc_matched_b25_body  k25 h x0 x1 x2 x3 x4 = some (r, h')) : EvB ω N_Cc_matched 4 (QB (some (iV r)) z h') z h 25 [some (aV ω x0), some (iV x1), some (iV x2), some (iV x3), some (iV x4), none] [] := by
  unfold Cc_matched_b25_body at hL
  refine ev_iload (pc := 25) dX9_matched_25 rfl ?_
  refine ev_aload_n (pc := 27) (i := 0) dX9_matched_27 rfl rfl ?_
  obtain ⟨hs5, hL⟩ := cC_un hL
  refine ev_get (pc := 28) (c9 := 9) (k9 := 17) dX9_matched_28 fl_Cc_96 (by decide) hs5 (gv9_17 hs5) ?_
  obtain ⟨hs6, hL⟩ := cC_un hL
  refine ev_get (pc := 31) (c9 := 5) (k9 := 2) dX9_matched_31 fl_Cc_305 (by decide) hs6 gv5_2 ?_
  refine ev_icmp_ge (pc := 34) (tgt := 77) dX9_matched_34 rfl hL rfl (fun hL => ?_) (fun hL => ?_)
  · refine ev_aload_n (pc := 37) (i := 0) dX9_matched_37 rfl rfl ?_
    refine ev_aload_n (pc := 38) (i := 0) dX9_matched_38 rfl rfl ?_
    refine ev_get (pc := 39) (c9 := 9) (k9 := 17) dX9_matched_39 fl_Cc_96 (by decide) hs5 (gv9_17 hs5) ?_
    refine ev_iload (pc := 42) dX9_matched_42 rfl ?_
    obtain ⟨r7, h8, hc9, hL⟩ := cl_un hL
    refine evB_callV_A (pc := 44) (M_Rw_seatsOf hc9) dX9_matched_44 mt_Rw_seatsOf st_Rw_seatsOf ml_Cc_308 hs6 (by decide) ⟨_, rfl, rfl⟩ (Nat.le_of_ble_eq_true rfl) rfl rfl (Nat.le_trans (sm_1 (cat_aV _ _) sm_z) (by decide)) ?_
    obtain ⟨r10, h11, hc12, hL⟩ := cl_un hL
    refine evB_callV_I (pc := 47) (M_Cc_lonelinessGone hc12) dX9_matched_47 mt_Cc_lonelinessGone st_Cc_lonelinessGone ml_Cc_312 hs5 (by decide) ⟨_, rfl, rfl⟩ (Nat.le_of_ble_eq_true rfl) rfl rfl (Nat.le_trans sm_z (by decide)) ?_
    refine ev_istore (pc := 50) dX9_matched_50 (lnl_v rfl rfl) (Nat.le_of_ble_eq_true rfl) ?_
    refine ev_iload (pc := 52) dX9_matched_52 rfl ?_
    refine ev_iload_n (pc := 54) (i := 3) dX9_matched_54 rfl rfl ?_
    refine ev_icmp_le (pc := 55) (tgt := 71) dX9_matched_55 rfl hL rfl (fun hL => ?_) (fun hL => ?_)
    · refine ev_iload (pc := 58) dX9_matched_58 rfl ?_
      refine ev_istore_n (pc := 60) (i := 3) dX9_matched_60 rfl (lnl_v rfl rfl) (Nat.le_of_ble_eq_true rfl) ?_
      refine ev_aload_n (pc := 61) (i := 0) dX9_matched_61 rfl rfl ?_
      refine ev_get (pc := 62) (c9 := 9) (k9 := 17) dX9_matched_62 fl_Cc_96 (by decide) hs5 (gv9_17 hs5) ?_
      refine ev_iload (pc := 65) dX9_matched_65 rfl ?_
      obtain ⟨r13, h14, hc15, hL⟩ := cl_un hL
      refine evB_callV_I (pc := 67) (M_Rw_rowAt hc15) dX9_matched_67 mt_Rw_rowAt st_Rw_rowAt ml_Cc_316 hs6 (by decide) ⟨_, rfl, rfl⟩ (Nat.le_of_ble_eq_true rfl) rfl rfl (Nat.le_trans sm_z (by decide)) ?_
      refine ev_istore_n (pc := 70) (i := 2) dX9_matched_70 rfl (lnl_v rfl rfl) (Nat.le_of_ble_eq_true rfl) ?_
      refine ev_iinc (pc := 71) dX9_matched_71 rfl (lnl_v rfl rfl) (Nat.le_of_ble_eq_true rfl) ?_
      refine ev_goto (pc := 74) (tgt := 25) dX9_matched_74 rfl ?_
      exact ev_le (lvle_s (lvle_s (lvle_s (lvle_s (lvle_s (lvle_n lvle_z)))))) (hk25 _ _ hL)
    · refine ev_iinc (pc := 71) dX9_matched_71 rfl (lnl_v rfl rfl) (Nat.le_of_ble_eq_true rfl) ?_
      refine ev_goto (pc := 74) (tgt := 25) dX9_matched_74 rfl ?_
      exact ev_le (lvle_s (lvle_s (lvle_s (lvle_s (lvle_s (lvle_n lvle_z)))))) (hk25 _ _ hL)
  · refine ev_iload_n (pc := 77) (i := 1) dX9_matched_77 rfl rfl ?_
    refine ev_if_ne (pc := 78) (tgt := 85) dX9_matched_78 rfl hL rfl (fun hL => ?_) (fun hL => ?_)
    · refine ev_iload_n (pc := 81) (i := 2) dX9_matched_81 rfl rfl ?_
      refine ev_goto (pc := 82) (tgt := 86) dX9_matched_82 rfl ?_
      exact evB_iret (pc := 86) dX9_matched_86 rfl hL
    · refine ev_iload_n (pc := 85) (i := 3) dX9_matched_85 rfl rfl ?_
      exact evB_iret (pc := 86) dX9_matched_86 rfl hL
set_option maxHeartbeats 1000000 in
set_option maxRecDepth 100000 in
theorem KCc_matched_b25 {ω : Wd} {z : Nat → Prop}  {h h' : Hp} {x0 x1 x2 x3 x4 r : Int}  (hL : Cc_matched_b25 h x0 x1 x2 x3 x4 = some (r, h')) : EvB ω N_Cc_matched 4 (QB (some (iV r)) z h') z h 25 [some (aV ω x0), some (iV x1), some (iV x2), some (iV x3), some (iV x4), none] [] := by
  unfold Cc_matched_b25 at hL
  refine itr_link (P := fun (s : Hp × Int × Int × Int × Int × Int) (o : Int × Hp) => EvB ω N_Cc_matched 4 (QB (some (iV o.1)) z o.2) z s.1 25 [some (aV ω s.2.1), some (iV s.2.2.1), some (iV s.2.2.2.1), some (iV s.2.2.2.2.1), some (iV s.2.2.2.2.2), none] []) ?_ _ _ _ hL
  intro k hk s o h9
  have h10 := KCc_matched_b25_body (ω := ω) (z := z) (k25 := k) (h := s.1) (x0 := s.2.1) (x1 := s.2.2.1) (x2 := s.2.2.2.1) (x3 := s.2.2.2.2.1) (x4 := s.2.2.2.2.2) (r := o.1) (h' := o.2) 
  exact h10 hk h9
set_option maxHeartbeats 1000000 in
set_option maxRecDepth 100000 in
theorem M_Cc_matched {ω : Wd} {z : Nat → Prop} {h h' : Hp} {a0 a1 r : Int}  (hL : Cc_matched h a0 a1 = some (r, h')) : CtB ω N_Cc_matched 4 [aV ω a0, iV a1] z h (some (iV r)) h' := by
  unfold Cc_matched at hL
  refine Ct_of (lv := [some (aV ω a0), some (iV a1), none, none, none, none]) (by decide) (Nat.le_trans (sl_1 (cat_aV _ _) (sl_1 (cat_iV _) sl_z)) (Nat.le_of_ble_eq_true rfl)) (la_1 (cat_aV _ _) (la_1 (cat_iV _) (la_n (la_n (la_n (la_n la_z)))))) ?_
  refine ev_aload_n (pc := 0) (i := 0) dX9_matched_0 rfl rfl ?_
  obtain ⟨hs1, hL⟩ := cC_un hL
  obtain ⟨r2, h3, hc4, hL⟩ := cl_un hL
  refine evB_callV_I (pc := 1) (M_Cc_isTold hc4) dX9_matched_1 mt_Cc_isTold st_Cc_isTold ml_Cc_223 hs1 (by decide) ⟨_, rfl, rfl⟩ (Nat.le_of_ble_eq_true rfl) rfl rfl (Nat.le_trans sm_z (by decide)) ?_
  refine ev_if_eq (pc := 4) (tgt := 16) dX9_matched_4 rfl hL rfl (fun hL => ?_) (fun hL => ?_)
  · refine ev_iconst (pc := 16) dX9_matched_16 ?_
    exact evB_iret (pc := 17) dX9_matched_17 rfl hL
  · refine ev_iload_n (pc := 7) (i := 1) dX9_matched_7 rfl rfl ?_
    refine ev_if_lt (pc := 8) (tgt := 16) dX9_matched_8 rfl hL rfl (fun hL => ?_) (fun hL => ?_)
    · refine ev_iconst (pc := 16) dX9_matched_16 ?_
      exact evB_iret (pc := 17) dX9_matched_17 rfl hL
    · refine ev_iload_n (pc := 11) (i := 1) dX9_matched_11 rfl rfl ?_
      refine ev_iconst (pc := 12) dX9_matched_12 ?_
      refine ev_icmp_le (pc := 13) (tgt := 18) dX9_matched_13 rfl hL rfl (fun hL => ?_) (fun hL => ?_)
      · refine ev_iconst (pc := 16) dX9_matched_16 ?_
        exact evB_iret (pc := 17) dX9_matched_17 rfl hL
      · refine ev_iconst (pc := 18) dX9_matched_18 ?_
        refine ev_istore_n (pc := 19) (i := 2) dX9_matched_19 rfl (lnl_v rfl rfl) (Nat.le_of_ble_eq_true rfl) ?_
        refine ev_iconst (pc := 20) dX9_matched_20 ?_
        refine ev_istore_n (pc := 21) (i := 3) dX9_matched_21 rfl (lnl_v rfl rfl) (Nat.le_of_ble_eq_true rfl) ?_
        refine ev_iconst (pc := 22) dX9_matched_22 ?_
        refine ev_istore (pc := 23) dX9_matched_23 (lnl_v rfl rfl) (Nat.le_of_ble_eq_true rfl) ?_
        exact ev_le (lvle_s (lvle_s (lvle_s (lvle_s (lvle_s (lvle_n lvle_z)))))) (KCc_matched_b25  hL)
set_option maxHeartbeats 1000000 in
set_option maxRecDepth 100000 in
theorem M_Cc_odds {ω : Wd} {z : Nat → Prop} {h h' : Hp} {a0 a1 a2 a3 r : Int}  (hL : Cc_odds h a0 a1 a2 a3 = some (r, h')) : CtB ω N_Cc_odds 85 [aV ω a0, iV a1, iV a2, iV a3] z h (some (iV r)) h' := by
  unfold Cc_odds at hL
  refine Ct_of (lv := [some (aV ω a0), some (iV a1), some (iV a2), some (iV a3)]) (by decide) (Nat.le_trans (sl_1 (cat_aV _ _) (sl_1 (cat_iV _) (sl_1 (cat_iV _) (sl_1 (cat_iV _) sl_z)))) (Nat.le_of_ble_eq_true rfl)) (la_1 (cat_aV _ _) (la_1 (cat_iV _) (la_1 (cat_iV _) (la_1 (cat_iV _) la_z)))) ?_
  refine ev_aload_n (pc := 0) (i := 0) dX9_odds_0 rfl rfl ?_
  refine ev_iload_n (pc := 1) (i := 1) dX9_odds_1 rfl rfl ?_
  obtain ⟨hs1, hL⟩ := cC_un hL
  obtain ⟨r2, h3, hc4, hL⟩ := cl_un hL
  refine evB_callV_I (pc := 2) (M_Cc_isPerson hc4) dX9_odds_2 mt_Cc_isPerson st_Cc_isPerson ml_Cc_132 hs1 (by decide) ⟨_, rfl, rfl⟩ (Nat.le_of_ble_eq_true rfl) rfl rfl (Nat.le_trans sm_z (by decide)) ?_
  refine ev_if_eq (pc := 5) (tgt := 28) dX9_odds_5 rfl hL rfl (fun hL => ?_) (fun hL => ?_)
  · refine ev_iconst (pc := 28) dX9_odds_28 ?_
    exact evB_iret (pc := 29) dX9_odds_29 rfl hL
  · refine ev_iload_n (pc := 8) (i := 2) dX9_odds_8 rfl rfl ?_
    refine ev_if_lt (pc := 9) (tgt := 28) dX9_odds_9 rfl hL rfl (fun hL => ?_) (fun hL => ?_)
    · refine ev_iconst (pc := 28) dX9_odds_28 ?_
      exact evB_iret (pc := 29) dX9_odds_29 rfl hL
    · refine ev_iload_n (pc := 12) (i := 2) dX9_odds_12 rfl rfl ?_
      refine ev_bipush (pc := 13) dX9_odds_13 (by decide) ?_
      refine ev_icmp_gt (pc := 15) (tgt := 28) dX9_odds_15 rfl hL rfl (fun hL => ?_) (fun hL => ?_)
      · refine ev_iconst (pc := 28) dX9_odds_28 ?_
        exact evB_iret (pc := 29) dX9_odds_29 rfl hL
      · refine ev_iload_n (pc := 18) (i := 3) dX9_odds_18 rfl rfl ?_
        refine ev_if_lt (pc := 19) (tgt := 28) dX9_odds_19 rfl hL rfl (fun hL => ?_) (fun hL => ?_)
        · refine ev_iconst (pc := 28) dX9_odds_28 ?_
          exact evB_iret (pc := 29) dX9_odds_29 rfl hL
        · refine ev_iload_n (pc := 22) (i := 3) dX9_odds_22 rfl rfl ?_
          refine ev_bipush (pc := 23) dX9_odds_23 (by decide) ?_
          refine ev_icmp_le (pc := 25) (tgt := 30) dX9_odds_25 rfl hL rfl (fun hL => ?_) (fun hL => ?_)
          · refine ev_iconst (pc := 28) dX9_odds_28 ?_
            exact evB_iret (pc := 29) dX9_odds_29 rfl hL
          · refine ev_aload_n (pc := 30) (i := 0) dX9_odds_30 rfl rfl ?_
            refine ev_iload_n (pc := 31) (i := 2) dX9_odds_31 rfl rfl ?_
            obtain ⟨r5, h6, hc7, hL⟩ := cl_un hL
            refine evB_callV_A (pc := 32) (M_Cc_apartAt hc7) dX9_odds_32 mt_Cc_apartAt st_Cc_apartAt ml_Cc_258 hs1 (by decide) ⟨_, rfl, rfl⟩ (Nat.le_of_ble_eq_true rfl) rfl rfl (Nat.le_trans sm_z (by decide)) ?_
            refine ev_aload_n (pc := 35) (i := 0) dX9_odds_35 rfl rfl ?_
            refine ev_get (pc := 36) (c9 := 9) (k9 := 10) dX9_odds_36 fl_Cc_58 (by decide) hs1 (gv9_10 hs1) ?_
            obtain ⟨hs8, hL⟩ := cC_un hL
            obtain ⟨r9, h10, hc11, hL⟩ := cl_un hL
            refine evB_callV_V (pc := 39) (M_St_copy hc11) dX9_odds_39 mt_St_copy st_St_copy ml_Cc_262 hs8 (by decide) ⟨_, rfl, rfl⟩ (Nat.le_of_ble_eq_true rfl) rfl rfl (Nat.le_trans sm_z (by decide)) ?_
            refine ev_aload_n (pc := 42) (i := 0) dX9_odds_42 rfl rfl ?_
            refine ev_iload_n (pc := 43) (i := 2) dX9_odds_43 rfl rfl ?_
            refine ev_iload_n (pc := 44) (i := 1) dX9_odds_44 rfl rfl ?_
            refine ev_iload_n (pc := 45) (i := 3) dX9_odds_45 rfl rfl ?_
            refine ev_ldc2 (pc := 46) (x := 1000000000) dX9_odds_46 w_l_Cc_350 ?_
            obtain ⟨r12, h13, hc14, hL⟩ := cl_un hL
            refine evB_callV_J (pc := 49) (M_Cc_breaking hc14) dX9_odds_49 mt_Cc_breaking st_Cc_breaking ml_Cc_352 hs1 (by decide) ⟨_, rfl, rfl⟩ (Nat.le_of_ble_eq_true rfl) rfl rfl (Nat.le_trans sm_z (by decide)) ?_
            refine ev_l2i (pc := 52) dX9_odds_52 ?_
            exact evB_iret (pc := 53) dX9_odds_53 rfl hL
set_option maxHeartbeats 1000000 in
set_option maxRecDepth 100000 in
theorem M_Cc_owed {ω : Wd} {z : Nat → Prop} {h h' : Hp} {a0 a1 a2 r : Int}  (hL : Cc_owed h a0 a1 a2 = some (r, h')) : CtB ω N_Cc_owed 3 [aV ω a0, iV a1, iV a2] z h (some (iV r)) h' := by
  unfold Cc_owed at hL
  refine Ct_of (lv := [some (aV ω a0), some (iV a1), some (iV a2)]) (by decide) (Nat.le_trans (sl_1 (cat_aV _ _) (sl_1 (cat_iV _) (sl_1 (cat_iV _) sl_z))) (Nat.le_of_ble_eq_true rfl)) (la_1 (cat_aV _ _) (la_1 (cat_iV _) (la_1 (cat_iV _) la_z))) ?_
  refine ev_aload_n (pc := 0) (i := 0) dX9_owed_0 rfl rfl ?_
  refine ev_iload_n (pc := 1) (i := 1) dX9_owed_1 rfl rfl ?_
  refine ev_iload_n (pc := 2) (i := 2) dX9_owed_2 rfl rfl ?_
  obtain ⟨hs1, hL⟩ := cC_un hL
  obtain ⟨r2, h3, hc4, hL⟩ := cl_un hL
  refine evB_callV_I (pc := 3) (M_Cc_areTwo hc4) dX9_owed_3 mt_Cc_areTwo st_Cc_areTwo ml_Cc_205 hs1 (by decide) ⟨_, rfl, rfl⟩ (Nat.le_of_ble_eq_true rfl) rfl rfl (Nat.le_trans sm_z (by decide)) ?_
  refine ev_if_eq (pc := 6) (tgt := 21) dX9_owed_6 rfl hL rfl (fun hL => ?_) (fun hL => ?_)
  · refine ev_iconst (pc := 21) dX9_owed_21 ?_
    exact evB_iret (pc := 22) dX9_owed_22 rfl hL
  · refine ev_aload_n (pc := 9) (i := 0) dX9_owed_9 rfl rfl ?_
    refine ev_get (pc := 10) (c9 := 9) (k9 := 10) dX9_owed_10 fl_Cc_58 (by decide) hs1 (gv9_10 hs1) ?_
    refine ev_iload_n (pc := 13) (i := 1) dX9_owed_13 rfl rfl ?_
    refine ev_iload_n (pc := 14) (i := 2) dX9_owed_14 rfl rfl ?_
    obtain ⟨hs5, hL⟩ := cC_un hL
    obtain ⟨r6, h7, hc8, hL⟩ := cl_un hL
    refine evB_callV_I (pc := 15) (M_St_owes hc8) dX9_owed_15 mt_St_owes st_St_owes ml_Cc_184 hs5 (by decide) ⟨_, rfl, rfl⟩ (Nat.le_of_ble_eq_true rfl) rfl rfl (Nat.le_trans sm_z (by decide)) ?_
    refine ev_goto (pc := 18) (tgt := 22) dX9_owed_18 rfl ?_
    exact evB_iret (pc := 22) dX9_owed_22 rfl hL
set_option maxHeartbeats 1000000 in
set_option maxRecDepth 100000 in
theorem M_Cc_pardonIn {ω : Wd} {z : Nat → Prop} {h h' : Hp} {a0 a1 a2 a3 r : Int}  (hL : Cc_pardonIn h a0 a1 a2 a3 = some (r, h')) : CtB ω N_Cc_pardonIn 4 [aV ω a0, aV ω a1, iV a2, iV a3] z h (some (iV r)) h' := by
  unfold Cc_pardonIn at hL
  refine Ct_of (lv := [some (aV ω a0), some (aV ω a1), some (iV a2), some (iV a3)]) (by decide) (Nat.le_trans (sl_1 (cat_aV _ _) (sl_1 (cat_aV _ _) (sl_1 (cat_iV _) (sl_1 (cat_iV _) sl_z)))) (Nat.le_of_ble_eq_true rfl)) (la_1 (cat_aV _ _) (la_1 (cat_aV _ _) (la_1 (cat_iV _) (la_1 (cat_iV _) la_z)))) ?_
  refine ev_aload_n (pc := 0) (i := 0) dX9_pardonIn_0 rfl rfl ?_
  refine ev_iload_n (pc := 1) (i := 2) dX9_pardonIn_1 rfl rfl ?_
  refine ev_iload_n (pc := 2) (i := 3) dX9_pardonIn_2 rfl rfl ?_
  obtain ⟨hs1, hL⟩ := cC_un hL
  obtain ⟨r2, h3, hc4, hL⟩ := cl_un hL
  refine evB_callV_I (pc := 3) (M_Cc_areTwo hc4) dX9_pardonIn_3 mt_Cc_areTwo st_Cc_areTwo ml_Cc_205 hs1 (by decide) ⟨_, rfl, rfl⟩ (Nat.le_of_ble_eq_true rfl) rfl rfl (Nat.le_trans sm_z (by decide)) ?_
  refine ev_if_eq (pc := 6) (tgt := 27) dX9_pardonIn_6 rfl hL rfl (fun hL => ?_) (fun hL => ?_)
  · refine ev_iconst (pc := 27) dX9_pardonIn_27 ?_
    exact evB_zret (pc := 28) dX9_pardonIn_28 rfl rfl hL
  · refine ev_aload_n (pc := 9) (i := 1) dX9_pardonIn_9 rfl rfl ?_
    refine ev_iload_n (pc := 10) (i := 2) dX9_pardonIn_10 rfl rfl ?_
    refine ev_iload_n (pc := 11) (i := 3) dX9_pardonIn_11 rfl rfl ?_
    obtain ⟨hs5, hL⟩ := cC_un hL
    obtain ⟨r6, h7, hc8, hL⟩ := cl_un hL
    refine evB_callV_I (pc := 12) (M_St_owes hc8) dX9_pardonIn_12 mt_St_owes st_St_owes ml_Cc_184 hs5 (by decide) ⟨_, rfl, rfl⟩ (Nat.le_of_ble_eq_true rfl) rfl rfl (Nat.le_trans sm_z (by decide)) ?_
    refine ev_iconst (pc := 15) dX9_pardonIn_15 ?_
    refine ev_icmp_lt (pc := 16) (tgt := 27) dX9_pardonIn_16 rfl hL rfl (fun hL => ?_) (fun hL => ?_)
    · refine ev_iconst (pc := 27) dX9_pardonIn_27 ?_
      exact evB_zret (pc := 28) dX9_pardonIn_28 rfl rfl hL
    · refine ev_aload_n (pc := 19) (i := 1) dX9_pardonIn_19 rfl rfl ?_
      refine ev_get (pc := 20) (c9 := 7) (k9 := 6) dX9_pardonIn_20 fl_Cc_209 (by decide) hs5 gv7_6 ?_
      refine ev_iconst (pc := 23) dX9_pardonIn_23 ?_
      refine ev_icmp_ge (pc := 24) (tgt := 29) dX9_pardonIn_24 rfl hL rfl (fun hL => ?_) (fun hL => ?_)
      · refine ev_iconst (pc := 27) dX9_pardonIn_27 ?_
        exact evB_zret (pc := 28) dX9_pardonIn_28 rfl rfl hL
      · refine ev_aload_n (pc := 29) (i := 1) dX9_pardonIn_29 rfl rfl ?_
        refine ev_dup (pc := 30) dX9_pardonIn_30 (cat_aV _ _) ?_
        refine ev_get (pc := 31) (c9 := 7) (k9 := 6) dX9_pardonIn_31 fl_Cc_209 (by decide) hs5 gv7_6 ?_
        refine ev_iconst (pc := 34) dX9_pardonIn_34 ?_
        refine ev_isub (pc := 35) dX9_pardonIn_35 ?_
        refine evB_putI (pc := 36) (c9 := 7) (k9 := 6) (kI := 6) dX9_pardonIn_36 fl_Cc_209 hs5 (by decide) (fun q hq => by cases hq; rfl) rfl rfl rfl ?_
        refine ev_puG hL (fun h9 hL => ?_)
        refine ev_aload_n (pc := 39) (i := 1) dX9_pardonIn_39 rfl rfl ?_
        refine ev_iload_n (pc := 40) (i := 2) dX9_pardonIn_40 rfl rfl ?_
        refine ev_iload_n (pc := 41) (i := 3) dX9_pardonIn_41 rfl rfl ?_
        refine ev_aload_n (pc := 42) (i := 1) dX9_pardonIn_42 rfl rfl ?_
        refine ev_iload_n (pc := 43) (i := 2) dX9_pardonIn_43 rfl rfl ?_
        refine ev_iload_n (pc := 44) (i := 3) dX9_pardonIn_44 rfl rfl ?_
        obtain ⟨r10, h11, hc12, hL⟩ := cl_un hL
        refine evB_callV_I (pc := 45) (M_St_owes hc12) dX9_pardonIn_45 mt_St_owes st_St_owes ml_Cc_184 hs5 (by decide) ⟨_, rfl, rfl⟩ (Nat.le_of_ble_eq_true rfl) rfl rfl (Nat.le_trans (sm_1 (cat_iV _) (sm_1 (cat_iV _) (sm_1 (cat_aV _ _) sm_z))) (by decide)) ?_
        refine ev_ineg (pc := 48) dX9_pardonIn_48 ?_
        obtain ⟨r13, h14, hc15, hL⟩ := cl_un hL
        refine evB_callV_V (pc := 49) (M_St_owe hc15) dX9_pardonIn_49 mt_St_owe st_St_owe ml_Cc_418 hs5 (by decide) ⟨_, rfl, rfl⟩ (Nat.le_of_ble_eq_true rfl) rfl rfl (Nat.le_trans sm_z (by decide)) ?_
        refine ev_iconst (pc := 52) dX9_pardonIn_52 ?_
        exact evB_zret (pc := 53) dX9_pardonIn_53 rfl rfl hL
set_option maxHeartbeats 1000000 in
set_option maxRecDepth 100000 in
theorem M_Cc_pardon {ω : Wd} {z : Nat → Prop} {h h' : Hp} {a0 a1 a2 r : Int}  (hL : Cc_pardon h a0 a1 a2 = some (r, h')) : CtB ω N_Cc_pardon 5 [aV ω a0, iV a1, iV a2] z h (some (iV r)) h' := by
  unfold Cc_pardon at hL
  refine Ct_of (lv := [some (aV ω a0), some (iV a1), some (iV a2), none]) (by decide) (Nat.le_trans (sl_1 (cat_aV _ _) (sl_1 (cat_iV _) (sl_1 (cat_iV _) sl_z))) (Nat.le_of_ble_eq_true rfl)) (la_1 (cat_aV _ _) (la_1 (cat_iV _) (la_1 (cat_iV _) (la_n la_z)))) ?_
  refine ev_aload_n (pc := 0) (i := 0) dX9_pardon_0 rfl rfl ?_
  obtain ⟨hs1, hL⟩ := cC_un hL
  refine ev_get (pc := 1) (c9 := 9) (k9 := 10) dX9_pardon_1 fl_Cc_58 (by decide) hs1 (gv9_10 hs1) ?_
  refine ev_iload_n (pc := 4) (i := 1) dX9_pardon_4 rfl rfl ?_
  refine ev_iload_n (pc := 5) (i := 2) dX9_pardon_5 rfl rfl ?_
  obtain ⟨hs2, hL⟩ := cC_un hL
  obtain ⟨r3, h4, hc5, hL⟩ := cl_un hL
  refine evB_callV_I (pc := 6) (M_St_owes hc5) dX9_pardon_6 mt_St_owes st_St_owes ml_Cc_184 hs2 (by decide) ⟨_, rfl, rfl⟩ (Nat.le_of_ble_eq_true rfl) rfl rfl (Nat.le_trans sm_z (by decide)) ?_
  refine ev_istore_n (pc := 9) (i := 3) dX9_pardon_9 rfl (lnl_v rfl rfl) (Nat.le_of_ble_eq_true rfl) ?_
  refine ev_aload_n (pc := 10) (i := 0) dX9_pardon_10 rfl rfl ?_
  refine ev_get (pc := 11) (c9 := 9) (k9 := 14) dX9_pardon_11 fl_Cc_75 (by decide) hs1 (gv9_14 hs1) ?_
  refine ev_aload_n (pc := 14) (i := 0) dX9_pardon_14 rfl rfl ?_
  refine ev_get (pc := 15) (c9 := 9) (k9 := 10) dX9_pardon_15 fl_Cc_58 (by decide) hs1 (gv9_10 hs1) ?_
  obtain ⟨hs6, hL⟩ := cC_un hL
  obtain ⟨r7, h8, hc9, hL⟩ := cl_un hL
  refine evB_callV_V (pc := 18) (M_Ps_offer hc9) dX9_pardon_18 mt_Ps_offer st_Ps_offer ml_Cc_173 hs6 (by decide) ⟨_, rfl, rfl⟩ (Nat.le_of_ble_eq_true rfl) rfl rfl (Nat.le_trans sm_z (by decide)) ?_
  refine ev_aload_n (pc := 21) (i := 0) dX9_pardon_21 rfl rfl ?_
  refine ev_aload_n (pc := 22) (i := 0) dX9_pardon_22 rfl rfl ?_
  refine ev_get (pc := 23) (c9 := 9) (k9 := 10) dX9_pardon_23 fl_Cc_58 (by decide) hs1 (gv9_10 hs1) ?_
  refine ev_iload_n (pc := 26) (i := 1) dX9_pardon_26 rfl rfl ?_
  refine ev_iload_n (pc := 27) (i := 2) dX9_pardon_27 rfl rfl ?_
  obtain ⟨r10, h11, hc12, hL⟩ := cl_un hL
  refine evB_callV_I (pc := 28) (M_Cc_pardonIn hc12) dX9_pardon_28 mt_Cc_pardonIn st_Cc_pardonIn ml_Cc_202 hs1 (by decide) ⟨_, rfl, rfl⟩ (Nat.le_of_ble_eq_true rfl) rfl rfl (Nat.le_trans sm_z (by decide)) ?_
  refine ev_if_ne (pc := 31) (tgt := 36) dX9_pardon_31 rfl hL rfl (fun hL => ?_) (fun hL => ?_)
  · refine ev_iconst (pc := 34) dX9_pardon_34 ?_
    exact evB_iret (pc := 35) dX9_pardon_35 rfl hL
  · refine ev_aload_n (pc := 36) (i := 0) dX9_pardon_36 rfl rfl ?_
    refine ev_get (pc := 37) (c9 := 9) (k9 := 14) dX9_pardon_37 fl_Cc_75 (by decide) hs1 (gv9_14 hs1) ?_
    obtain ⟨r13, h14, hc15, hL⟩ := cl_un hL
    refine evB_callV_V (pc := 40) (M_Ps_keep hc15) dX9_pardon_40 mt_Ps_keep st_Ps_keep ml_Cc_181 hs6 (by decide) ⟨_, rfl, rfl⟩ (Nat.le_of_ble_eq_true rfl) rfl rfl (Nat.le_trans sm_z (by decide)) ?_
    refine ev_iload_n (pc := 43) (i := 3) dX9_pardon_43 rfl rfl ?_
    exact evB_iret (pc := 44) dX9_pardon_44 rfl hL
set_option maxHeartbeats 1000000 in
set_option maxRecDepth 100000 in
theorem M_Cy_graveOf {ω : Wd} {z : Nat → Prop} {h h' : Hp} {a0 a1 r : Int}  (hL : Cy_graveOf h a0 a1 = some (r, h')) : CtB ω N_Cy_graveOf 2 [aV ω a0, iV a1] z h (some (iV r)) h' := by
  unfold Cy_graveOf at hL
  refine Ct_of (lv := [some (aV ω a0), some (iV a1)]) (by decide) (Nat.le_trans (sl_1 (cat_aV _ _) (sl_1 (cat_iV _) sl_z)) (Nat.le_of_ble_eq_true rfl)) (la_1 (cat_aV _ _) (la_1 (cat_iV _) la_z)) ?_
  refine ev_aload_n (pc := 0) (i := 0) dX0_graveOf_0 rfl rfl ?_
  obtain ⟨hs1, hL⟩ := cC_un hL
  refine ev_get (pc := 1) (c9 := 0) (k9 := 2) dX0_graveOf_1 fl_Cy_18 (by decide) hs1 (gv0_2 hs1) ?_
  refine ev_iconst (pc := 4) dX0_graveOf_4 ?_
  refine ev_iload_n (pc := 5) (i := 1) dX0_graveOf_5 rfl rfl ?_
  refine ev_imul (pc := 6) dX0_graveOf_6 ?_
  refine ev_iconst (pc := 7) dX0_graveOf_7 ?_
  refine ev_iadd (pc := 8) dX0_graveOf_8 ?_
  obtain ⟨r2, h3, hc4, hL⟩ := cl_un hL
  refine evB_callS_I (pc := 9) (M_Cc_at hc4) dX0_graveOf_9 mt_Cc_at st_Cc_at ml_Cy_74 (Nat.le_of_ble_eq_true rfl) rfl rfl (Nat.le_trans sm_z (by decide)) ?_
  exact evB_iret (pc := 12) dX0_graveOf_12 rfl hL
set_option maxHeartbeats 1000000 in
set_option maxRecDepth 100000 in
theorem M_St_isSentenced {ω : Wd} {z : Nat → Prop} {h h' : Hp} {a0 a1 r : Int}  (hL : St_isSentenced h a0 a1 = some (r, h')) : CtB ω N_St_isSentenced 2 [aV ω a0, iV a1] z h (some (iV r)) h' := by
  unfold St_isSentenced at hL
  refine Ct_of (lv := [some (aV ω a0), some (iV a1)]) (by decide) (Nat.le_trans (sl_1 (cat_aV _ _) (sl_1 (cat_iV _) sl_z)) (Nat.le_of_ble_eq_true rfl)) (la_1 (cat_aV _ _) (la_1 (cat_iV _) la_z)) ?_
  refine ev_aload_n (pc := 0) (i := 0) dX7_isSentenced_0 rfl rfl ?_
  obtain ⟨hs1, hL⟩ := cC_un hL
  refine ev_get (pc := 1) (c9 := 7) (k9 := 5) dX7_isSentenced_1 fl_St_28 (by decide) hs1 gv7_5 ?_
  refine ev_iload_n (pc := 4) (i := 1) dX7_isSentenced_4 rfl rfl ?_
  obtain ⟨r2, h3, hc4, hL⟩ := cl_un hL
  refine evB_callS_I (pc := 5) (M_Cc_holds hc4) dX7_isSentenced_5 mt_Cc_holds st_Cc_holds ml_St_68 (Nat.le_of_ble_eq_true rfl) rfl rfl (Nat.le_trans sm_z (by decide)) ?_
  exact evB_zret (pc := 8) dX7_isSentenced_8 rfl rfl hL
set_option maxHeartbeats 1000000 in
set_option maxRecDepth 100000 in
theorem M_Cc_sentenceIn {ω : Wd} {z : Nat → Prop} {h h' : Hp} {a0 a1 a2 r : Int}  (hL : Cc_sentenceIn h a0 a1 a2 = some (r, h')) : CtB ω N_Cc_sentenceIn 5 [aV ω a0, aV ω a1, iV a2] z h (some (iV r)) h' := by
  unfold Cc_sentenceIn at hL
  refine Ct_of (lv := [some (aV ω a0), some (aV ω a1), some (iV a2), none, none]) (by decide) (Nat.le_trans (sl_1 (cat_aV _ _) (sl_1 (cat_aV _ _) (sl_1 (cat_iV _) sl_z))) (Nat.le_of_ble_eq_true rfl)) (la_1 (cat_aV _ _) (la_1 (cat_aV _ _) (la_1 (cat_iV _) (la_n (la_n la_z))))) ?_
  refine ev_aload_n (pc := 0) (i := 0) dX9_sentenceIn_0 rfl rfl ?_
  refine ev_iload_n (pc := 1) (i := 2) dX9_sentenceIn_1 rfl rfl ?_
  obtain ⟨hs1, hL⟩ := cC_un hL
  obtain ⟨r2, h3, hc4, hL⟩ := cl_un hL
  refine evB_callV_I (pc := 2) (M_Cc_isWrong hc4) dX9_sentenceIn_2 mt_Cc_isWrong st_Cc_isWrong ml_Cc_154 hs1 (by decide) ⟨_, rfl, rfl⟩ (Nat.le_of_ble_eq_true rfl) rfl rfl (Nat.le_trans sm_z (by decide)) ?_
  refine ev_if_eq (pc := 5) (tgt := 16) dX9_sentenceIn_5 rfl hL rfl (fun hL => ?_) (fun hL => ?_)
  · refine ev_iconst (pc := 16) dX9_sentenceIn_16 ?_
    exact evB_zret (pc := 17) dX9_sentenceIn_17 rfl rfl hL
  · refine ev_aload_n (pc := 8) (i := 1) dX9_sentenceIn_8 rfl rfl ?_
    refine ev_iload_n (pc := 9) (i := 2) dX9_sentenceIn_9 rfl rfl ?_
    obtain ⟨hs5, hL⟩ := cC_un hL
    obtain ⟨r6, h7, hc8, hL⟩ := cl_un hL
    refine evB_callV_I (pc := 10) (M_St_isSentenced hc8) dX9_sentenceIn_10 mt_St_isSentenced st_St_isSentenced ml_Cc_166 hs5 (by decide) ⟨_, rfl, rfl⟩ (Nat.le_of_ble_eq_true rfl) rfl rfl (Nat.le_trans sm_z (by decide)) ?_
    refine ev_if_eq (pc := 13) (tgt := 18) dX9_sentenceIn_13 rfl hL rfl (fun hL => ?_) (fun hL => ?_)
    · refine ev_aload_n (pc := 18) (i := 0) dX9_sentenceIn_18 rfl rfl ?_
      refine ev_get (pc := 19) (c9 := 9) (k9 := 1) dX9_sentenceIn_19 fl_Cc_19 (by decide) hs1 gv9_1 ?_
      refine ev_iload_n (pc := 22) (i := 2) dX9_sentenceIn_22 rfl rfl ?_
      obtain ⟨hs9, hL⟩ := cC_un hL
      obtain ⟨r10, h11, hc12, hL⟩ := cl_un hL
      refine evB_callV_I (pc := 23) (M_Cy_whoOf hc12) dX9_sentenceIn_23 mt_Cy_whoOf st_Cy_whoOf ml_Cc_157 hs9 (by decide) ⟨_, rfl, rfl⟩ (Nat.le_of_ble_eq_true rfl) rfl rfl (Nat.le_trans sm_z (by decide)) ?_
      refine ev_istore_n (pc := 26) (i := 3) dX9_sentenceIn_26 rfl (lnl_v rfl rfl) (Nat.le_of_ble_eq_true rfl) ?_
      refine ev_aload_n (pc := 27) (i := 0) dX9_sentenceIn_27 rfl rfl ?_
      refine ev_get (pc := 28) (c9 := 9) (k9 := 1) dX9_sentenceIn_28 fl_Cc_19 (by decide) hs1 gv9_1 ?_
      refine ev_iload_n (pc := 31) (i := 2) dX9_sentenceIn_31 rfl rfl ?_
      obtain ⟨hs13, hL⟩ := cC_un hL
      obtain ⟨r14, h15, hc16, hL⟩ := cl_un hL
      refine evB_callV_I (pc := 32) (M_Cy_whomOf hc16) dX9_sentenceIn_32 mt_Cy_whomOf st_Cy_whomOf ml_Cc_160 hs13 (by decide) ⟨_, rfl, rfl⟩ (Nat.le_of_ble_eq_true rfl) rfl rfl (Nat.le_trans sm_z (by decide)) ?_
      refine ev_istore (pc := 35) dX9_sentenceIn_35 (lnl_v rfl rfl) (Nat.le_of_ble_eq_true rfl) ?_
      refine ev_aload_n (pc := 37) (i := 1) dX9_sentenceIn_37 rfl rfl ?_
      refine ev_iload_n (pc := 38) (i := 3) dX9_sentenceIn_38 rfl rfl ?_
      refine ev_iload (pc := 39) dX9_sentenceIn_39 rfl ?_
      refine ev_aload_n (pc := 41) (i := 0) dX9_sentenceIn_41 rfl rfl ?_
      refine ev_aload_n (pc := 42) (i := 1) dX9_sentenceIn_42 rfl rfl ?_
      refine ev_iload_n (pc := 43) (i := 3) dX9_sentenceIn_43 rfl rfl ?_
      refine ev_iload (pc := 44) dX9_sentenceIn_44 rfl ?_
      refine ev_aload_n (pc := 46) (i := 0) dX9_sentenceIn_46 rfl rfl ?_
      refine ev_get (pc := 47) (c9 := 9) (k9 := 1) dX9_sentenceIn_47 fl_Cc_19 (by decide) hs1 gv9_1 ?_
      refine ev_iload_n (pc := 50) (i := 2) dX9_sentenceIn_50 rfl rfl ?_
      obtain ⟨hs17, hL⟩ := cC_un hL
      obtain ⟨r18, h19, hc20, hL⟩ := cl_un hL
      refine evB_callV_I (pc := 51) (M_Cy_graveOf hc20) dX9_sentenceIn_51 mt_Cy_graveOf st_Cy_graveOf ml_Cc_163 hs17 (by decide) ⟨_, rfl, rfl⟩ (Nat.le_of_ble_eq_true rfl) rfl rfl (Nat.le_trans (sm_1 (cat_iV _) (sm_1 (cat_iV _) (sm_1 (cat_aV _ _) (sm_1 (cat_aV _ _) (sm_1 (cat_iV _) (sm_1 (cat_iV _) (sm_1 (cat_aV _ _) sm_z))))))) (by decide)) ?_
      obtain ⟨r21, h22, hc23, hL⟩ := cl_un hL
      refine evB_callV_I (pc := 54) (M_Cc_worthBy hc23) dX9_sentenceIn_54 mt_Cc_worthBy st_Cc_worthBy ml_Cc_169 hs1 (by decide) ⟨_, rfl, rfl⟩ (Nat.le_of_ble_eq_true rfl) rfl rfl (Nat.le_trans (sm_1 (cat_iV _) (sm_1 (cat_iV _) (sm_1 (cat_aV _ _) sm_z))) (by decide)) ?_
      obtain ⟨r24, h25, hc26, hL⟩ := cl_un hL
      refine evB_callV_V (pc := 57) (M_St_owe hc26) dX9_sentenceIn_57 mt_St_owe st_St_owe ml_Cc_418 hs5 (by decide) ⟨_, rfl, rfl⟩ (Nat.le_of_ble_eq_true rfl) rfl rfl (Nat.le_trans sm_z (by decide)) ?_
      refine ev_aload_n (pc := 60) (i := 1) dX9_sentenceIn_60 rfl rfl ?_
      refine ev_dup (pc := 61) dX9_sentenceIn_61 (cat_aV _ _) ?_
      refine ev_get (pc := 62) (c9 := 7) (k9 := 5) dX9_sentenceIn_62 fl_Cc_362 (by decide) hs5 gv7_5 ?_
      refine ev_iconst (pc := 65) dX9_sentenceIn_65 ?_
      refine ev_iload_n (pc := 66) (i := 2) dX9_sentenceIn_66 rfl rfl ?_
      refine ev_ishl (pc := 67) dX9_sentenceIn_67 ?_
      refine ev_ior (pc := 68) dX9_sentenceIn_68 ?_
      refine evB_putI (pc := 69) (c9 := 7) (k9 := 5) (kI := 5) dX9_sentenceIn_69 fl_Cc_362 hs5 (by decide) (fun q hq => by cases hq; rfl) rfl rfl rfl ?_
      refine ev_puG hL (fun h27 hL => ?_)
      refine ev_iconst (pc := 72) dX9_sentenceIn_72 ?_
      exact evB_zret (pc := 73) dX9_sentenceIn_73 rfl rfl hL
    · refine ev_iconst (pc := 16) dX9_sentenceIn_16 ?_
      exact evB_zret (pc := 17) dX9_sentenceIn_17 rfl rfl hL
set_option maxHeartbeats 1000000 in
set_option maxRecDepth 100000 in
theorem M_Ss_part {ω : Wd} {z : Nat → Prop} {h h' : Hp} {a0 a1 a2 r : Int}  (hL : Ss_part h a0 a1 a2 = some (r, h')) : CtB ω N_Ss_part 2 [aV ω a0, iV a1, iV a2] z h (some (iV r)) h' := by
  unfold Ss_part at hL
  refine Ct_of (lv := [some (aV ω a0), some (iV a1), some (iV a2)]) (by decide) (Nat.le_trans (sl_1 (cat_aV _ _) (sl_1 (cat_iV _) (sl_1 (cat_iV _) sl_z))) (Nat.le_of_ble_eq_true rfl)) (la_1 (cat_aV _ _) (la_1 (cat_iV _) (la_1 (cat_iV _) la_z))) ?_
  refine ev_aload_n (pc := 0) (i := 0) dX6_part_0 rfl rfl ?_
  obtain ⟨hs1, hL⟩ := cC_un hL
  refine ev_get (pc := 1) (c9 := 6) (k9 := 0) dX6_part_1 fl_Ss_9 (by decide) hs1 (gv6_0 hs1) ?_
  refine ev_iconst (pc := 4) dX6_part_4 ?_
  refine ev_iload_n (pc := 5) (i := 1) dX6_part_5 rfl rfl ?_
  refine ev_imul (pc := 6) dX6_part_6 ?_
  refine ev_iload_n (pc := 7) (i := 2) dX6_part_7 rfl rfl ?_
  refine ev_iadd (pc := 8) dX6_part_8 ?_
  obtain ⟨r2, h3, hc4, hL⟩ := cl_un hL
  refine evB_callS_I (pc := 9) (M_Cc_at hc4) dX6_part_9 mt_Cc_at st_Cc_at ml_Ss_19 (Nat.le_of_ble_eq_true rfl) rfl rfl (Nat.le_trans sm_z (by decide)) ?_
  exact evB_iret (pc := 12) dX6_part_12 rfl hL
set_option maxHeartbeats 1000000 in
set_option maxRecDepth 100000 in
theorem M_Cc_stepIn {ω : Wd} {z : Nat → Prop} {h h' : Hp} {a0 a1 a2 a3 r : Int}  (hL : Cc_stepIn h a0 a1 a2 a3 = some (r, h')) : CtB ω N_Cc_stepIn 7 [aV ω a0, aV ω a1, aV ω a2, iV a3] z h (some (iV r)) h' := by
  unfold Cc_stepIn at hL
  refine Ct_of (lv := [some (aV ω a0), some (aV ω a1), some (aV ω a2), some (iV a3), none, none]) (by decide) (Nat.le_trans (sl_1 (cat_aV _ _) (sl_1 (cat_aV _ _) (sl_1 (cat_aV _ _) (sl_1 (cat_iV _) sl_z)))) (Nat.le_of_ble_eq_true rfl)) (la_1 (cat_aV _ _) (la_1 (cat_aV _ _) (la_1 (cat_aV _ _) (la_1 (cat_iV _) (la_n (la_n la_z)))))) ?_
  refine ev_aload_n (pc := 0) (i := 2) dX9_stepIn_0 rfl rfl ?_
  refine ev_iload_n (pc := 1) (i := 3) dX9_stepIn_1 rfl rfl ?_
  refine ev_iconst (pc := 2) dX9_stepIn_2 ?_
  obtain ⟨hs1, hL⟩ := cC_un hL
  obtain ⟨r2, h3, hc4, hL⟩ := cl_un hL
  refine evB_callV_I (pc := 3) (M_Ss_part hc4) dX9_stepIn_3 mt_Ss_part st_Ss_part ml_Cc_255 hs1 (by decide) ⟨_, rfl, rfl⟩ (Nat.le_of_ble_eq_true rfl) rfl rfl (Nat.le_trans sm_z (by decide)) ?_
  refine ev_istore (pc := 6) dX9_stepIn_6 (lnl_v rfl rfl) (Nat.le_of_ble_eq_true rfl) ?_
  refine ev_aload_n (pc := 8) (i := 2) dX9_stepIn_8 rfl rfl ?_
  refine ev_iload_n (pc := 9) (i := 3) dX9_stepIn_9 rfl rfl ?_
  refine ev_iconst (pc := 10) dX9_stepIn_10 ?_
  obtain ⟨r5, h6, hc7, hL⟩ := cl_un hL
  refine evB_callV_I (pc := 11) (M_Ss_part hc7) dX9_stepIn_11 mt_Ss_part st_Ss_part ml_Cc_255 hs1 (by decide) ⟨_, rfl, rfl⟩ (Nat.le_of_ble_eq_true rfl) rfl rfl (Nat.le_trans sm_z (by decide)) ?_
  refine ev_istore (pc := 14) dX9_stepIn_14 (lnl_v rfl rfl) (Nat.le_of_ble_eq_true rfl) ?_
  refine ev_aload_n (pc := 16) (i := 2) dX9_stepIn_16 rfl rfl ?_
  refine ev_iload_n (pc := 17) (i := 3) dX9_stepIn_17 rfl rfl ?_
  refine ev_iconst (pc := 18) dX9_stepIn_18 ?_
  obtain ⟨r8, h9, hc10, hL⟩ := cl_un hL
  refine evB_callV_I (pc := 19) (M_Ss_part hc10) dX9_stepIn_19 mt_Ss_part st_Ss_part ml_Cc_255 hs1 (by decide) ⟨_, rfl, rfl⟩ (Nat.le_of_ble_eq_true rfl) rfl rfl (Nat.le_trans sm_z (by decide)) ?_
  rcases ite_un hL with ⟨hx, hL⟩ | ⟨hx15, hL⟩
  · refine evB_tswIn (pc := 22) (tgt := 52) dX9_stepIn_22 hx (by decide) (by decide) rfl rfl ?_
    refine ev_aload_n (pc := 52) (i := 0) dX9_stepIn_52 rfl rfl ?_
    refine ev_aload_n (pc := 53) (i := 1) dX9_stepIn_53 rfl rfl ?_
    refine ev_iload (pc := 54) dX9_stepIn_54 rfl ?_
    obtain ⟨hs11, hL⟩ := cC_un hL
    obtain ⟨r12, h13, hc14, hL⟩ := cl_un hL
    refine evB_callV_I (pc := 56) (M_Cc_sentenceIn hc14) dX9_stepIn_56 mt_Cc_sentenceIn st_Cc_sentenceIn ml_Cc_177 hs11 (by decide) ⟨_, rfl, rfl⟩ (Nat.le_of_ble_eq_true rfl) rfl rfl (Nat.le_trans sm_z (by decide)) ?_
    exact evB_zret (pc := 59) dX9_stepIn_59 rfl rfl hL
  · rcases ite_un hL with ⟨hx, hL⟩ | ⟨hx20, hL⟩
    · refine evB_tswIn (pc := 22) (tgt := 60) dX9_stepIn_22 hx (by decide) (by decide) rfl rfl ?_
      refine ev_aload_n (pc := 60) (i := 0) dX9_stepIn_60 rfl rfl ?_
      refine ev_aload_n (pc := 61) (i := 1) dX9_stepIn_61 rfl rfl ?_
      obtain ⟨hs16, hL⟩ := cC_un hL
      obtain ⟨r17, h18, hc19, hL⟩ := cl_un hL
      refine evB_callV_I (pc := 62) (M_Cc_eveningIn hc19) dX9_stepIn_62 mt_Cc_eveningIn st_Cc_eveningIn ml_Cc_188 hs16 (by decide) ⟨_, rfl, rfl⟩ (Nat.le_of_ble_eq_true rfl) rfl rfl (Nat.le_trans sm_z (by decide)) ?_
      exact evB_zret (pc := 65) dX9_stepIn_65 rfl rfl hL
    · rcases ite_un hL with ⟨hx, hL⟩ | ⟨hx25, hL⟩
      · refine evB_tswIn (pc := 22) (tgt := 66) dX9_stepIn_22 hx (by decide) (by decide) rfl rfl ?_
        refine ev_aload_n (pc := 66) (i := 0) dX9_stepIn_66 rfl rfl ?_
        refine ev_aload_n (pc := 67) (i := 1) dX9_stepIn_67 rfl rfl ?_
        refine ev_iload (pc := 68) dX9_stepIn_68 rfl ?_
        refine ev_iload (pc := 70) dX9_stepIn_70 rfl ?_
        obtain ⟨hs21, hL⟩ := cC_un hL
        obtain ⟨r22, h23, hc24, hL⟩ := cl_un hL
        refine evB_callV_I (pc := 72) (M_Cc_appealIn hc24) dX9_stepIn_72 mt_Cc_appealIn st_Cc_appealIn ml_Cc_198 hs21 (by decide) ⟨_, rfl, rfl⟩ (Nat.le_of_ble_eq_true rfl) rfl rfl (Nat.le_trans sm_z (by decide)) ?_
        exact evB_zret (pc := 75) dX9_stepIn_75 rfl rfl hL
      · rcases ite_un hL with ⟨hx, hL⟩ | ⟨hx30, hL⟩
        · refine evB_tswIn (pc := 22) (tgt := 76) dX9_stepIn_22 hx (by decide) (by decide) rfl rfl ?_
          refine ev_aload_n (pc := 76) (i := 0) dX9_stepIn_76 rfl rfl ?_
          refine ev_aload_n (pc := 77) (i := 1) dX9_stepIn_77 rfl rfl ?_
          refine ev_iload (pc := 78) dX9_stepIn_78 rfl ?_
          refine ev_iload (pc := 80) dX9_stepIn_80 rfl ?_
          obtain ⟨hs26, hL⟩ := cC_un hL
          obtain ⟨r27, h28, hc29, hL⟩ := cl_un hL
          refine evB_callV_I (pc := 82) (M_Cc_pardonIn hc29) dX9_stepIn_82 mt_Cc_pardonIn st_Cc_pardonIn ml_Cc_202 hs26 (by decide) ⟨_, rfl, rfl⟩ (Nat.le_of_ble_eq_true rfl) rfl rfl (Nat.le_trans sm_z (by decide)) ?_
          exact evB_zret (pc := 85) dX9_stepIn_85 rfl rfl hL
        · refine evB_tswOut (pc := 22) (tgt := 86) dX9_stepIn_22 (by omega) rfl ?_
          refine ev_iconst (pc := 86) dX9_stepIn_86 ?_
          exact evB_zret (pc := 87) dX9_stepIn_87 rfl rfl hL
set_option maxHeartbeats 1000000 in
set_option maxRecDepth 100000 in
theorem KCc_perform_b25_body {ω : Wd} {z : Nat → Prop}  {k25 : Hp × Int × Int × Int → Option (Int × Hp)} {h h' : Hp} {x0 x2 x3 r : Int}  (hk25 : ∀ s o, k25 s = some o → EvB ω N_Cc_perform 8 (QB (some (iV o.1)) z o.2) z s.1 25 [some (aV ω s.2.1), none, some (aV ω s.2.2.1), some (iV s.2.2.2)] []) (hL : Cc_perform_b25_body  k25 h x0 x2 x3 = some (r, h')) : EvB ω N_Cc_perform 8 (QB (some (iV r)) z h') z h 25 [some (aV ω x0), none, some (aV ω x2), some (iV x3)] [] := by
  unfold Cc_perform_b25_body at hL
  refine ev_iload_n (pc := 25) (i := 3) dX9_perform_25 rfl rfl ?_
  refine ev_aload_n (pc := 26) (i := 2) dX9_perform_26 rfl rfl ?_
  obtain ⟨hs11, hL⟩ := cC_un hL
  refine ev_get (pc := 27) (c9 := 6) (k9 := 1) dX9_perform_27 fl_Cc_254 (by decide) hs11 gv6_1 ?_
  refine ev_icmp_ge (pc := 30) (tgt := 93) dX9_perform_30 rfl hL rfl (fun hL => ?_) (fun hL => ?_)
  · refine ev_aload_n (pc := 33) (i := 0) dX9_perform_33 rfl rfl ?_
    obtain ⟨hs12, hL⟩ := cC_un hL
    refine ev_get (pc := 34) (c9 := 9) (k9 := 14) dX9_perform_34 fl_Cc_75 (by decide) hs12 (gv9_14 hs12) ?_
    refine ev_aload_n (pc := 37) (i := 0) dX9_perform_37 rfl rfl ?_
    refine ev_get (pc := 38) (c9 := 9) (k9 := 10) dX9_perform_38 fl_Cc_58 (by decide) hs12 (gv9_10 hs12) ?_
    obtain ⟨hs13, hL⟩ := cC_un hL
    obtain ⟨r14, h15, hc16, hL⟩ := cl_un hL
    refine evB_callV_V (pc := 41) (M_Ps_offer hc16) dX9_perform_41 mt_Ps_offer st_Ps_offer ml_Cc_173 hs13 (by decide) ⟨_, rfl, rfl⟩ (Nat.le_of_ble_eq_true rfl) rfl rfl (Nat.le_trans sm_z (by decide)) ?_
    refine ev_aload_n (pc := 44) (i := 0) dX9_perform_44 rfl rfl ?_
    refine ev_aload_n (pc := 45) (i := 0) dX9_perform_45 rfl rfl ?_
    refine ev_get (pc := 46) (c9 := 9) (k9 := 10) dX9_perform_46 fl_Cc_58 (by decide) hs12 (gv9_10 hs12) ?_
    refine ev_aload_n (pc := 49) (i := 2) dX9_perform_49 rfl rfl ?_
    refine ev_iload_n (pc := 50) (i := 3) dX9_perform_50 rfl rfl ?_
    obtain ⟨r17, h18, hc19, hL⟩ := cl_un hL
    refine evB_callV_I (pc := 51) (M_Cc_stepIn hc19) dX9_perform_51 mt_Cc_stepIn st_Cc_stepIn ml_Cc_265 hs12 (by decide) ⟨_, rfl, rfl⟩ (Nat.le_of_ble_eq_true rfl) rfl rfl (Nat.le_trans sm_z (by decide)) ?_
    refine ev_if_ne (pc := 54) (tgt := 59) dX9_perform_54 rfl hL rfl (fun hL => ?_) (fun hL => ?_)
    · refine ev_iload_n (pc := 57) (i := 3) dX9_perform_57 rfl rfl ?_
      exact evB_iret (pc := 58) dX9_perform_58 rfl hL
    · refine ev_aload_n (pc := 59) (i := 0) dX9_perform_59 rfl rfl ?_
      refine ev_get (pc := 60) (c9 := 9) (k9 := 14) dX9_perform_60 fl_Cc_75 (by decide) hs12 (gv9_14 hs12) ?_
      obtain ⟨r20, h21, hc22, hL⟩ := cl_un hL
      refine evB_callV_V (pc := 63) (M_Ps_keep hc22) dX9_perform_63 mt_Ps_keep st_Ps_keep ml_Cc_181 hs13 (by decide) ⟨_, rfl, rfl⟩ (Nat.le_of_ble_eq_true rfl) rfl rfl (Nat.le_trans sm_z (by decide)) ?_
      refine ev_aload_n (pc := 66) (i := 2) dX9_perform_66 rfl rfl ?_
      refine ev_iload_n (pc := 67) (i := 3) dX9_perform_67 rfl rfl ?_
      refine ev_iconst (pc := 68) dX9_perform_68 ?_
      obtain ⟨r23, h24, hc25, hL⟩ := cl_un hL
      refine evB_callV_I (pc := 69) (M_Ss_part hc25) dX9_perform_69 mt_Ss_part st_Ss_part ml_Cc_255 hs11 (by decide) ⟨_, rfl, rfl⟩ (Nat.le_of_ble_eq_true rfl) rfl rfl (Nat.le_trans sm_z (by decide)) ?_
      refine ev_iconst (pc := 72) dX9_perform_72 ?_
      refine ev_icmp_ne (pc := 73) (tgt := 87) dX9_perform_73 rfl hL rfl (fun hL => ?_) (fun hL => ?_)
      · refine ev_aload_n (pc := 76) (i := 0) dX9_perform_76 rfl rfl ?_
        refine ev_get (pc := 77) (c9 := 9) (k9 := 15) dX9_perform_77 fl_Cc_82 (by decide) hs12 (gv9_15 hs12) ?_
        refine ev_aload_n (pc := 80) (i := 0) dX9_perform_80 rfl rfl ?_
        refine ev_get (pc := 81) (c9 := 9) (k9 := 10) dX9_perform_81 fl_Cc_58 (by decide) hs12 (gv9_10 hs12) ?_
        obtain ⟨hs26, hL⟩ := cC_un hL
        obtain ⟨r27, h28, hc29, hL⟩ := cl_un hL
        refine evB_callV_V (pc := 84) (M_Lg_write hc29) dX9_perform_84 mt_Lg_write st_Lg_write ml_Cc_192 hs26 (by decide) ⟨_, rfl, rfl⟩ (Nat.le_of_ble_eq_true rfl) rfl rfl (Nat.le_trans sm_z (by decide)) ?_
        refine ev_iinc (pc := 87) dX9_perform_87 rfl (lnl_v (cat_aV _ _) rfl) (Nat.le_of_ble_eq_true rfl) ?_
        refine ev_goto (pc := 90) (tgt := 25) dX9_perform_90 rfl ?_
        exact ev_le (lvle_s (lvle_n (lvle_s (lvle_s lvle_z)))) (hk25 _ _ hL)
      · refine ev_iinc (pc := 87) dX9_perform_87 rfl (lnl_v (cat_aV _ _) rfl) (Nat.le_of_ble_eq_true rfl) ?_
        refine ev_goto (pc := 90) (tgt := 25) dX9_perform_90 rfl ?_
        exact ev_le (lvle_s (lvle_n (lvle_s (lvle_s lvle_z)))) (hk25 _ _ hL)
  · refine ev_aload_n (pc := 93) (i := 2) dX9_perform_93 rfl rfl ?_
    refine ev_get (pc := 94) (c9 := 6) (k9 := 1) dX9_perform_94 fl_Cc_254 (by decide) hs11 gv6_1 ?_
    exact evB_iret (pc := 97) dX9_perform_97 rfl hL
set_option maxHeartbeats 1000000 in
set_option maxRecDepth 100000 in
theorem KCc_perform_b25 {ω : Wd} {z : Nat → Prop}  {h h' : Hp} {x0 x2 x3 r : Int}  (hL : Cc_perform_b25 h x0 x2 x3 = some (r, h')) : EvB ω N_Cc_perform 8 (QB (some (iV r)) z h') z h 25 [some (aV ω x0), none, some (aV ω x2), some (iV x3)] [] := by
  unfold Cc_perform_b25 at hL
  refine itr_link (P := fun (s : Hp × Int × Int × Int) (o : Int × Hp) => EvB ω N_Cc_perform 8 (QB (some (iV o.1)) z o.2) z s.1 25 [some (aV ω s.2.1), none, some (aV ω s.2.2.1), some (iV s.2.2.2)] []) ?_ _ _ _ hL
  intro k hk s o h9
  have h10 := KCc_perform_b25_body (ω := ω) (z := z) (k25 := k) (h := s.1) (x0 := s.2.1) (x2 := s.2.2.1) (x3 := s.2.2.2) (r := o.1) (h' := o.2) 
  exact h10 hk h9
set_option maxHeartbeats 1000000 in
set_option maxRecDepth 100000 in
theorem M_Cc_perform {ω : Wd} {z : Nat → Prop} {h h' : Hp} {a0 a1 r : Int}  (hL : Cc_perform h a0 a1 = some (r, h')) : CtB ω N_Cc_perform 8 [aV ω a0, iV a1] z h (some (iV r)) h' := by
  unfold Cc_perform at hL
  refine Ct_of (lv := [some (aV ω a0), some (iV a1), none, none]) (by decide) (Nat.le_trans (sl_1 (cat_aV _ _) (sl_1 (cat_iV _) sl_z)) (Nat.le_of_ble_eq_true rfl)) (la_1 (cat_aV _ _) (la_1 (cat_iV _) (la_n (la_n la_z)))) ?_
  refine ev_aload_n (pc := 0) (i := 0) dX9_perform_0 rfl rfl ?_
  refine ev_iload_n (pc := 1) (i := 1) dX9_perform_1 rfl rfl ?_
  obtain ⟨hs1, hL⟩ := cC_un hL
  obtain ⟨r2, h3, hc4, hL⟩ := cl_un hL
  refine evB_callV_I (pc := 2) (M_Cc_isSession hc4) dX9_perform_2 mt_Cc_isSession st_Cc_isSession ml_Cc_246 hs1 (by decide) ⟨_, rfl, rfl⟩ (Nat.le_of_ble_eq_true rfl) rfl rfl (Nat.le_trans sm_z (by decide)) ?_
  refine ev_if_eq (pc := 5) (tgt := 15) dX9_perform_5 rfl hL rfl (fun hL => ?_) (fun hL => ?_)
  · refine ev_iconst (pc := 15) dX9_perform_15 ?_
    exact evB_iret (pc := 16) dX9_perform_16 rfl hL
  · refine ev_aload_n (pc := 8) (i := 0) dX9_perform_8 rfl rfl ?_
    obtain ⟨r5, h6, hc7, hL⟩ := cl_un hL
    refine evB_callV_I (pc := 9) (M_Cc_isTold hc7) dX9_perform_9 mt_Cc_isTold st_Cc_isTold ml_Cc_223 hs1 (by decide) ⟨_, rfl, rfl⟩ (Nat.le_of_ble_eq_true rfl) rfl rfl (Nat.le_trans sm_z (by decide)) ?_
    refine ev_if_ne (pc := 12) (tgt := 17) dX9_perform_12 rfl hL rfl (fun hL => ?_) (fun hL => ?_)
    · refine ev_iconst (pc := 15) dX9_perform_15 ?_
      exact evB_iret (pc := 16) dX9_perform_16 rfl hL
    · refine ev_aload_n (pc := 17) (i := 0) dX9_perform_17 rfl rfl ?_
      refine ev_iload_n (pc := 18) (i := 1) dX9_perform_18 rfl rfl ?_
      obtain ⟨r8, h9, hc10, hL⟩ := cl_un hL
      refine evB_callV_A (pc := 19) (M_Cc_sessionAt hc10) dX9_perform_19 mt_Cc_sessionAt st_Cc_sessionAt ml_Cc_250 hs1 (by decide) ⟨_, rfl, rfl⟩ (Nat.le_of_ble_eq_true rfl) rfl rfl (Nat.le_trans sm_z (by decide)) ?_
      refine ev_astore_n (pc := 22) (i := 2) (isA_aV _ _) dX9_perform_22 rfl (lnl_v rfl rfl) (Nat.le_of_ble_eq_true rfl) ?_
      refine ev_iconst (pc := 23) dX9_perform_23 ?_
      refine ev_istore_n (pc := 24) (i := 3) dX9_perform_24 rfl (lnl_v (cat_aV _ _) rfl) (Nat.le_of_ble_eq_true rfl) ?_
      exact ev_le (lvle_s (lvle_n (lvle_s (lvle_s lvle_z)))) (KCc_perform_b25  hL)
set_option maxHeartbeats 1000000 in
set_option maxRecDepth 100000 in
theorem M_Cc_person {ω : Wd} {z : Nat → Prop} {h h' : Hp} {a0 a1 a2 r : Int}  (hL : Cc_person h a0 a1 a2 = some (r, h')) : CtB ω N_Cc_person 4 [aV ω a0, iV a1, iV a2] z h (some (iV r)) h' := by
  unfold Cc_person at hL
  refine Ct_of (lv := [some (aV ω a0), some (iV a1), some (iV a2)]) (by decide) (Nat.le_trans (sl_1 (cat_aV _ _) (sl_1 (cat_iV _) (sl_1 (cat_iV _) sl_z))) (Nat.le_of_ble_eq_true rfl)) (la_1 (cat_aV _ _) (la_1 (cat_iV _) (la_1 (cat_iV _) la_z))) ?_
  refine ev_aload_n (pc := 0) (i := 0) dX9_person_0 rfl rfl ?_
  refine ev_iload_n (pc := 1) (i := 1) dX9_person_1 rfl rfl ?_
  obtain ⟨hs1, hL⟩ := cC_un hL
  obtain ⟨r2, h3, hc4, hL⟩ := cl_un hL
  refine evB_callV_I (pc := 2) (M_Cc_isPerson hc4) dX9_person_2 mt_Cc_isPerson st_Cc_isPerson ml_Cc_132 hs1 (by decide) ⟨_, rfl, rfl⟩ (Nat.le_of_ble_eq_true rfl) rfl rfl (Nat.le_trans sm_z (by decide)) ?_
  refine ev_if_eq (pc := 5) (tgt := 17) dX9_person_5 rfl hL rfl (fun hL => ?_) (fun hL => ?_)
  · cases hL
  · refine ev_iload_n (pc := 8) (i := 2) dX9_person_8 rfl rfl ?_
    refine ev_if_lt (pc := 9) (tgt := 17) dX9_person_9 rfl hL rfl (fun hL => ?_) (fun hL => ?_)
    · cases hL
    · refine ev_iload_n (pc := 12) (i := 2) dX9_person_12 rfl rfl ?_
      refine ev_iconst (pc := 13) dX9_person_13 ?_
      refine ev_icmp_le (pc := 14) (tgt := 27) dX9_person_14 rfl hL rfl (fun hL => ?_) (fun hL => ?_)
      · cases hL
      · refine ev_iload_n (pc := 27) (i := 2) dX9_person_27 rfl rfl ?_
        rcases ite_un hL with ⟨hx, hL⟩ | ⟨hx9, hL⟩
        · refine evB_tswIn (pc := 28) (tgt := 56) dX9_person_28 hx (by decide) (by decide) rfl rfl ?_
          refine ev_aload_n (pc := 56) (i := 0) dX9_person_56 rfl rfl ?_
          refine ev_get (pc := 57) (c9 := 9) (k9 := 10) dX9_person_57 fl_Cc_58 (by decide) hs1 (gv9_10 hs1) ?_
          refine ev_iload_n (pc := 60) (i := 1) dX9_person_60 rfl rfl ?_
          obtain ⟨hs5, hL⟩ := cC_un hL
          obtain ⟨r6, h7, hc8, hL⟩ := cl_un hL
          refine evB_callV_I (pc := 61) (M_St_lonelyOf hc8) dX9_person_61 mt_St_lonelyOf st_St_lonelyOf ml_Cc_142 hs5 (by decide) ⟨_, rfl, rfl⟩ (Nat.le_of_ble_eq_true rfl) rfl rfl (Nat.le_trans sm_z (by decide)) ?_
          exact evB_iret (pc := 64) dX9_person_64 rfl hL
        · rcases ite_un hL with ⟨hx, hL⟩ | ⟨hx14, hL⟩
          · refine evB_tswIn (pc := 28) (tgt := 65) dX9_person_28 hx (by decide) (by decide) rfl rfl ?_
            refine ev_aload_n (pc := 65) (i := 0) dX9_person_65 rfl rfl ?_
            refine ev_get (pc := 66) (c9 := 9) (k9 := 10) dX9_person_66 fl_Cc_58 (by decide) hs1 (gv9_10 hs1) ?_
            refine ev_iload_n (pc := 69) (i := 1) dX9_person_69 rfl rfl ?_
            obtain ⟨hs10, hL⟩ := cC_un hL
            obtain ⟨r11, h12, hc13, hL⟩ := cl_un hL
            refine evB_callV_I (pc := 70) (M_St_boreOf hc13) dX9_person_70 mt_St_boreOf st_St_boreOf ml_Cc_145 hs10 (by decide) ⟨_, rfl, rfl⟩ (Nat.le_of_ble_eq_true rfl) rfl rfl (Nat.le_trans sm_z (by decide)) ?_
            exact evB_iret (pc := 73) dX9_person_73 rfl hL
          · rcases ite_un hL with ⟨hx, hL⟩ | ⟨hx19, hL⟩
            · refine evB_tswIn (pc := 28) (tgt := 74) dX9_person_28 hx (by decide) (by decide) rfl rfl ?_
              refine ev_aload_n (pc := 74) (i := 0) dX9_person_74 rfl rfl ?_
              refine ev_get (pc := 75) (c9 := 9) (k9 := 1) dX9_person_75 fl_Cc_19 (by decide) hs1 gv9_1 ?_
              refine ev_iload_n (pc := 78) (i := 1) dX9_person_78 rfl rfl ?_
              obtain ⟨hs15, hL⟩ := cC_un hL
              obtain ⟨r16, h17, hc18, hL⟩ := cl_un hL
              refine evB_callV_I (pc := 79) (M_Cy_hardOf hc18) dX9_person_79 mt_Cy_hardOf st_Cy_hardOf ml_Cc_148 hs15 (by decide) ⟨_, rfl, rfl⟩ (Nat.le_of_ble_eq_true rfl) rfl rfl (Nat.le_trans sm_z (by decide)) ?_
              exact evB_iret (pc := 82) dX9_person_82 rfl hL
            · refine evB_tswOut (pc := 28) (tgt := 83) dX9_person_28 (by omega) rfl ?_
              refine ev_aload_n (pc := 83) (i := 0) dX9_person_83 rfl rfl ?_
              refine ev_get (pc := 84) (c9 := 9) (k9 := 10) dX9_person_84 fl_Cc_58 (by decide) hs1 (gv9_10 hs1) ?_
              refine ev_iload_n (pc := 87) (i := 1) dX9_person_87 rfl rfl ?_
              obtain ⟨hs20, hL⟩ := cC_un hL
              obtain ⟨r21, h22, hc23, hL⟩ := cl_un hL
              refine evB_callV_I (pc := 88) (M_St_debtOf hc23) dX9_person_88 mt_St_debtOf st_St_debtOf ml_Cc_151 hs20 (by decide) ⟨_, rfl, rfl⟩ (Nat.le_of_ble_eq_true rfl) rfl rfl (Nat.le_trans sm_z (by decide)) ?_
              exact evB_iret (pc := 91) dX9_person_91 rfl hL
set_option maxHeartbeats 1000000 in
set_option maxRecDepth 100000 in
theorem KCc_rests_b32_body {ω : Wd} {z : Nat → Prop} {k17 : Hp × Int × Int × Int × Int × Int × Int → Option (Int × Hp)} {k32 : Hp × Int × Int × Int × Int × Int × Int × Int → Option (Int × Hp)} {h h' : Hp} {x0 x1 x2 x3 x4 x5 x6 r : Int} (hk17 : ∀ s o, k17 s = some o → EvB ω N_Cc_rests 6 (QB (some (iV o.1)) z o.2) z s.1 17 [some (aV ω s.2.1), some (iV s.2.2.1), some (iV s.2.2.2.1), some (iV s.2.2.2.2.1), some (iV s.2.2.2.2.2.1), some (iV s.2.2.2.2.2.2), none] []) (hk32 : ∀ s o, k32 s = some o → EvB ω N_Cc_rests 6 (QB (some (iV o.1)) z o.2) z s.1 32 [some (aV ω s.2.1), some (iV s.2.2.1), some (iV s.2.2.2.1), some (iV s.2.2.2.2.1), some (iV s.2.2.2.2.2.1), some (iV s.2.2.2.2.2.2.1), some (iV s.2.2.2.2.2.2.2)] []) (hL : Cc_rests_b32_body k17 k32 h x0 x1 x2 x3 x4 x5 x6 = some (r, h')) : EvB ω N_Cc_rests 6 (QB (some (iV r)) z h') z h 32 [some (aV ω x0), some (iV x1), some (iV x2), some (iV x3), some (iV x4), some (iV x5), some (iV x6)] [] := by
  unfold Cc_rests_b32_body at hL
  refine ev_iload (pc := 32) dX9_rests_32 rfl ?_
  refine ev_aload_n (pc := 34) (i := 0) dX9_rests_34 rfl rfl ?_
  obtain ⟨hs7, hL⟩ := cC_un hL
  refine ev_get (pc := 35) (c9 := 9) (k9 := 10) dX9_rests_35 fl_Cc_58 (by decide) hs7 (gv9_10 hs7) ?_
  obtain ⟨hs8, hL⟩ := cC_un hL
  refine ev_get (pc := 38) (c9 := 7) (k9 := 4) dX9_rests_38 fl_Cc_282 (by decide) hs8 gv7_4 ?_
  refine ev_icmp_ge (pc := 41) (tgt := 94) dX9_rests_41 rfl hL rfl (fun hL => ?_) (fun hL => ?_)
  · refine ev_aload_n (pc := 44) (i := 0) dX9_rests_44 rfl rfl ?_
    refine ev_iload_n (pc := 45) (i := 1) dX9_rests_45 rfl rfl ?_
    refine ev_iload_n (pc := 46) (i := 2) dX9_rests_46 rfl rfl ?_
    refine ev_iload (pc := 47) dX9_rests_47 rfl ?_
    refine ev_iload (pc := 49) dX9_rests_49 rfl ?_
    obtain ⟨r9, h10, hc11, hL⟩ := cl_un hL
    refine evB_callV_I (pc := 51) (M_Cc_isBest hc11) dX9_rests_51 mt_Cc_isBest st_Cc_isBest ml_Cc_346 hs7 (by decide) ⟨_, rfl, rfl⟩ (Nat.le_of_ble_eq_true rfl) rfl rfl (Nat.le_trans sm_z (by decide)) ?_
    refine ev_if_eq (pc := 54) (tgt := 88) dX9_rests_54 rfl hL rfl (fun hL => ?_) (fun hL => ?_)
    · refine ev_iinc (pc := 88) dX9_rests_88 rfl (lnl_v rfl rfl) (Nat.le_of_ble_eq_true rfl) ?_
      refine ev_goto (pc := 91) (tgt := 32) dX9_rests_91 rfl ?_
      exact ev_le (lvle_s (lvle_s (lvle_s (lvle_s (lvle_s (lvle_s (lvle_s lvle_z))))))) (hk32 _ _ hL)
    · refine ev_aload_n (pc := 57) (i := 0) dX9_rests_57 rfl rfl ?_
      refine ev_iload_n (pc := 58) (i := 2) dX9_rests_58 rfl rfl ?_
      refine ev_iload_n (pc := 59) (i := 1) dX9_rests_59 rfl rfl ?_
      refine ev_iload (pc := 60) dX9_rests_60 rfl ?_
      refine ev_iload (pc := 62) dX9_rests_62 rfl ?_
      obtain ⟨r12, h13, hc14, hL⟩ := cl_un hL
      refine evB_callV_I (pc := 64) (M_Cc_isBest hc14) dX9_rests_64 mt_Cc_isBest st_Cc_isBest ml_Cc_346 hs7 (by decide) ⟨_, rfl, rfl⟩ (Nat.le_of_ble_eq_true rfl) rfl rfl (Nat.le_trans sm_z (by decide)) ?_
      refine ev_if_eq (pc := 67) (tgt := 88) dX9_rests_67 rfl hL rfl (fun hL => ?_) (fun hL => ?_)
      · refine ev_iinc (pc := 88) dX9_rests_88 rfl (lnl_v rfl rfl) (Nat.le_of_ble_eq_true rfl) ?_
        refine ev_goto (pc := 91) (tgt := 32) dX9_rests_91 rfl ?_
        exact ev_le (lvle_s (lvle_s (lvle_s (lvle_s (lvle_s (lvle_s (lvle_s lvle_z))))))) (hk32 _ _ hL)
      · refine ev_iload (pc := 70) dX9_rests_70 rfl ?_
        refine ev_iload_n (pc := 72) (i := 3) dX9_rests_72 rfl rfl ?_
        refine ev_icmp_ne (pc := 73) (tgt := 85) dX9_rests_73 rfl hL rfl (fun hL => ?_) (fun hL => ?_)
        · refine ev_bipush (pc := 76) dX9_rests_76 (by decide) ?_
          refine ev_iload (pc := 78) dX9_rests_78 rfl ?_
          refine ev_imul (pc := 80) dX9_rests_80 ?_
          refine ev_iload (pc := 81) dX9_rests_81 rfl ?_
          refine ev_iadd (pc := 83) dX9_rests_83 ?_
          exact evB_iret (pc := 84) dX9_rests_84 rfl hL
        · refine ev_iinc (pc := 85) dX9_rests_85 rfl (lnl_v rfl rfl) (Nat.le_of_ble_eq_true rfl) ?_
          refine ev_iinc (pc := 88) dX9_rests_88 rfl (lnl_v rfl rfl) (Nat.le_of_ble_eq_true rfl) ?_
          refine ev_goto (pc := 91) (tgt := 32) dX9_rests_91 rfl ?_
          exact ev_le (lvle_s (lvle_s (lvle_s (lvle_s (lvle_s (lvle_s (lvle_s lvle_z))))))) (hk32 _ _ hL)
  · refine ev_iinc (pc := 94) dX9_rests_94 rfl (lnl_v rfl rfl) (Nat.le_of_ble_eq_true rfl) ?_
    refine ev_goto (pc := 97) (tgt := 17) dX9_rests_97 rfl ?_
    exact ev_le (lvle_s (lvle_s (lvle_s (lvle_s (lvle_s (lvle_s (lvle_n lvle_z))))))) (hk17 _ _ hL)
set_option maxHeartbeats 1000000 in
set_option maxRecDepth 100000 in
theorem KCc_rests_b32 {ω : Wd} {z : Nat → Prop} {k17 : Hp × Int × Int × Int × Int × Int × Int → Option (Int × Hp)} {h h' : Hp} {x0 x1 x2 x3 x4 x5 x6 r : Int} (hk17 : ∀ s o, k17 s = some o → EvB ω N_Cc_rests 6 (QB (some (iV o.1)) z o.2) z s.1 17 [some (aV ω s.2.1), some (iV s.2.2.1), some (iV s.2.2.2.1), some (iV s.2.2.2.2.1), some (iV s.2.2.2.2.2.1), some (iV s.2.2.2.2.2.2), none] []) (hL : Cc_rests_b32 k17 h x0 x1 x2 x3 x4 x5 x6 = some (r, h')) : EvB ω N_Cc_rests 6 (QB (some (iV r)) z h') z h 32 [some (aV ω x0), some (iV x1), some (iV x2), some (iV x3), some (iV x4), some (iV x5), some (iV x6)] [] := by
  unfold Cc_rests_b32 at hL
  refine itr_link (P := fun (s : Hp × Int × Int × Int × Int × Int × Int × Int) (o : Int × Hp) => EvB ω N_Cc_rests 6 (QB (some (iV o.1)) z o.2) z s.1 32 [some (aV ω s.2.1), some (iV s.2.2.1), some (iV s.2.2.2.1), some (iV s.2.2.2.2.1), some (iV s.2.2.2.2.2.1), some (iV s.2.2.2.2.2.2.1), some (iV s.2.2.2.2.2.2.2)] []) ?_ _ _ _ hL
  intro k hk s o h9
  have h10 := KCc_rests_b32_body (ω := ω) (z := z) (k17 := k17) (k32 := k) (h := s.1) (x0 := s.2.1) (x1 := s.2.2.1) (x2 := s.2.2.2.1) (x3 := s.2.2.2.2.1) (x4 := s.2.2.2.2.2.1) (x5 := s.2.2.2.2.2.2.1) (x6 := s.2.2.2.2.2.2.2) (r := o.1) (h' := o.2) hk17
  exact h10 hk h9
set_option maxHeartbeats 1000000 in
set_option maxRecDepth 100000 in
theorem KCc_rests_b17_body {ω : Wd} {z : Nat → Prop}  {k17 : Hp × Int × Int × Int × Int × Int × Int → Option (Int × Hp)} {h h' : Hp} {x0 x1 x2 x3 x4 x5 r : Int}  (hk17 : ∀ s o, k17 s = some o → EvB ω N_Cc_rests 6 (QB (some (iV o.1)) z o.2) z s.1 17 [some (aV ω s.2.1), some (iV s.2.2.1), some (iV s.2.2.2.1), some (iV s.2.2.2.2.1), some (iV s.2.2.2.2.2.1), some (iV s.2.2.2.2.2.2), none] []) (hL : Cc_rests_b17_body  k17 h x0 x1 x2 x3 x4 x5 = some (r, h')) : EvB ω N_Cc_rests 6 (QB (some (iV r)) z h') z h 17 [some (aV ω x0), some (iV x1), some (iV x2), some (iV x3), some (iV x4), some (iV x5), none] [] := by
  unfold Cc_rests_b17_body at hL
  refine ev_iload (pc := 17) dX9_rests_17 rfl ?_
  refine ev_aload_n (pc := 19) (i := 0) dX9_rests_19 rfl rfl ?_
  obtain ⟨hs5, hL⟩ := cC_un hL
  refine ev_get (pc := 20) (c9 := 9) (k9 := 10) dX9_rests_20 fl_Cc_58 (by decide) hs5 (gv9_10 hs5) ?_
  obtain ⟨hs6, hL⟩ := cC_un hL
  refine ev_get (pc := 23) (c9 := 7) (k9 := 4) dX9_rests_23 fl_Cc_282 (by decide) hs6 gv7_4 ?_
  refine ev_icmp_ge (pc := 26) (tgt := 100) dX9_rests_26 rfl hL rfl (fun hL => ?_) (fun hL => ?_)
  · refine ev_iconst (pc := 29) dX9_rests_29 ?_
    refine ev_istore (pc := 30) dX9_rests_30 (lnl_v rfl rfl) (Nat.le_of_ble_eq_true rfl) ?_
    exact ev_le (lvle_s (lvle_s (lvle_s (lvle_s (lvle_s (lvle_s (lvle_s lvle_z))))))) (KCc_rests_b32 hk17 hL)
  · refine ev_iload_n (pc := 100) (i := 3) dX9_rests_100 rfl rfl ?_
    refine ev_iconst (pc := 101) dX9_rests_101 ?_
    refine ev_icmp_ne (pc := 102) (tgt := 110) dX9_rests_102 rfl hL rfl (fun hL => ?_) (fun hL => ?_)
    · refine ev_iload (pc := 105) dX9_rests_105 rfl ?_
      refine ev_goto (pc := 107) (tgt := 111) dX9_rests_107 rfl ?_
      exact evB_iret (pc := 111) dX9_rests_111 rfl hL
    · refine ev_iconst (pc := 110) dX9_rests_110 ?_
      exact evB_iret (pc := 111) dX9_rests_111 rfl hL
set_option maxHeartbeats 1000000 in
set_option maxRecDepth 100000 in
theorem KCc_rests_b17 {ω : Wd} {z : Nat → Prop}  {h h' : Hp} {x0 x1 x2 x3 x4 x5 r : Int}  (hL : Cc_rests_b17 h x0 x1 x2 x3 x4 x5 = some (r, h')) : EvB ω N_Cc_rests 6 (QB (some (iV r)) z h') z h 17 [some (aV ω x0), some (iV x1), some (iV x2), some (iV x3), some (iV x4), some (iV x5), none] [] := by
  unfold Cc_rests_b17 at hL
  refine itr_link (P := fun (s : Hp × Int × Int × Int × Int × Int × Int) (o : Int × Hp) => EvB ω N_Cc_rests 6 (QB (some (iV o.1)) z o.2) z s.1 17 [some (aV ω s.2.1), some (iV s.2.2.1), some (iV s.2.2.2.1), some (iV s.2.2.2.2.1), some (iV s.2.2.2.2.2.1), some (iV s.2.2.2.2.2.2), none] []) ?_ _ _ _ hL
  intro k hk s o h9
  have h10 := KCc_rests_b17_body (ω := ω) (z := z) (k17 := k) (h := s.1) (x0 := s.2.1) (x1 := s.2.2.1) (x2 := s.2.2.2.1) (x3 := s.2.2.2.2.1) (x4 := s.2.2.2.2.2.1) (x5 := s.2.2.2.2.2.2) (r := o.1) (h' := o.2) 
  exact h10 hk h9
set_option maxHeartbeats 1000000 in
set_option maxRecDepth 100000 in
theorem M_Cc_rests {ω : Wd} {z : Nat → Prop} {h h' : Hp} {a0 a1 a2 a3 r : Int}  (hL : Cc_rests h a0 a1 a2 a3 = some (r, h')) : CtB ω N_Cc_rests 6 [aV ω a0, iV a1, iV a2, iV a3] z h (some (iV r)) h' := by
  unfold Cc_rests at hL
  refine Ct_of (lv := [some (aV ω a0), some (iV a1), some (iV a2), some (iV a3), none, none, none]) (by decide) (Nat.le_trans (sl_1 (cat_aV _ _) (sl_1 (cat_iV _) (sl_1 (cat_iV _) (sl_1 (cat_iV _) sl_z)))) (Nat.le_of_ble_eq_true rfl)) (la_1 (cat_aV _ _) (la_1 (cat_iV _) (la_1 (cat_iV _) (la_1 (cat_iV _) (la_n (la_n (la_n la_z))))))) ?_
  refine ev_aload_n (pc := 0) (i := 0) dX9_rests_0 rfl rfl ?_
  refine ev_iload_n (pc := 1) (i := 1) dX9_rests_1 rfl rfl ?_
  refine ev_iload_n (pc := 2) (i := 2) dX9_rests_2 rfl rfl ?_
  obtain ⟨hs1, hL⟩ := cC_un hL
  obtain ⟨r2, h3, hc4, hL⟩ := cl_un hL
  refine evB_callV_I (pc := 3) (M_Cc_areTwo hc4) dX9_rests_3 mt_Cc_areTwo st_Cc_areTwo ml_Cc_205 hs1 (by decide) ⟨_, rfl, rfl⟩ (Nat.le_of_ble_eq_true rfl) rfl rfl (Nat.le_trans sm_z (by decide)) ?_
  refine ev_if_ne (pc := 6) (tgt := 11) dX9_rests_6 rfl hL rfl (fun hL => ?_) (fun hL => ?_)
  · refine ev_iconst (pc := 9) dX9_rests_9 ?_
    exact evB_iret (pc := 10) dX9_rests_10 rfl hL
  · refine ev_iconst (pc := 11) dX9_rests_11 ?_
    refine ev_istore (pc := 12) dX9_rests_12 (lnl_v rfl rfl) (Nat.le_of_ble_eq_true rfl) ?_
    refine ev_iconst (pc := 14) dX9_rests_14 ?_
    refine ev_istore (pc := 15) dX9_rests_15 (lnl_v rfl rfl) (Nat.le_of_ble_eq_true rfl) ?_
    exact ev_le (lvle_s (lvle_s (lvle_s (lvle_s (lvle_s (lvle_s (lvle_n lvle_z))))))) (KCc_rests_b17  hL)
set_option maxHeartbeats 1000000 in
set_option maxRecDepth 100000 in
theorem KCc_rowOf_b4_body {ω : Wd} {z : Nat → Prop}  {k4 : Hp × Int × Int × Int × Int → Option (Int × Hp)} {h h' : Hp} {x0 x1 x2 x3 r : Int}  (hk4 : ∀ s o, k4 s = some o → EvB ω N_Cc_rowOf 2 (QB (some (iV o.1)) z o.2) z s.1 4 [some (aV ω s.2.1), some (iV s.2.2.1), some (iV s.2.2.2.1), some (iV s.2.2.2.2)] []) (hL : Cc_rowOf_b4_body  k4 h x0 x1 x2 x3 = some (r, h')) : EvB ω N_Cc_rowOf 2 (QB (some (iV r)) z h') z h 4 [some (aV ω x0), some (iV x1), some (iV x2), some (iV x3)] [] := by
  unfold Cc_rowOf_b4_body at hL
  refine ev_iload_n (pc := 4) (i := 3) dX9_rowOf_4 rfl rfl ?_
  refine ev_iload_n (pc := 5) (i := 1) dX9_rowOf_5 rfl rfl ?_
  refine ev_icmp_ge (pc := 6) (tgt := 26) dX9_rowOf_6 rfl hL rfl (fun hL => ?_) (fun hL => ?_)
  · refine ev_iload_n (pc := 9) (i := 2) dX9_rowOf_9 rfl rfl ?_
    refine ev_bipush (pc := 10) dX9_rowOf_10 (by decide) ?_
    refine ev_imul (pc := 12) dX9_rowOf_12 ?_
    refine ev_aload_n (pc := 13) (i := 0) dX9_rowOf_13 rfl rfl ?_
    refine ev_iload_n (pc := 14) (i := 3) dX9_rowOf_14 rfl rfl ?_
    obtain ⟨r1, h2, hc3, hL⟩ := cl_un hL
    refine evB_callS_I (pc := 15) (M_Cc_at hc3) dX9_rowOf_15 mt_Cc_at st_Cc_at ml_Cc_333 (Nat.le_of_ble_eq_true rfl) rfl rfl (Nat.le_trans (sm_1 (cat_iV _) sm_z) (by decide)) ?_
    refine ev_iadd (pc := 18) dX9_rowOf_18 ?_
    refine ev_bdI hL (fun v4 hL => ?_)
    refine ev_istore_n (pc := 19) (i := 2) dX9_rowOf_19 rfl (lnl_v rfl rfl) (Nat.le_of_ble_eq_true rfl) ?_
    refine ev_iinc (pc := 20) dX9_rowOf_20 rfl (lnl_v rfl rfl) (Nat.le_of_ble_eq_true rfl) ?_
    refine ev_goto (pc := 23) (tgt := 4) dX9_rowOf_23 rfl ?_
    exact ev_le (lvle_s (lvle_s (lvle_s (lvle_s lvle_z)))) (hk4 _ _ hL)
  · refine ev_iload_n (pc := 26) (i := 2) dX9_rowOf_26 rfl rfl ?_
    exact evB_iret (pc := 27) dX9_rowOf_27 rfl hL
set_option maxHeartbeats 1000000 in
set_option maxRecDepth 100000 in
theorem KCc_rowOf_b4 {ω : Wd} {z : Nat → Prop}  {h h' : Hp} {x0 x1 x2 x3 r : Int}  (hL : Cc_rowOf_b4 h x0 x1 x2 x3 = some (r, h')) : EvB ω N_Cc_rowOf 2 (QB (some (iV r)) z h') z h 4 [some (aV ω x0), some (iV x1), some (iV x2), some (iV x3)] [] := by
  unfold Cc_rowOf_b4 at hL
  refine itr_link (P := fun (s : Hp × Int × Int × Int × Int) (o : Int × Hp) => EvB ω N_Cc_rowOf 2 (QB (some (iV o.1)) z o.2) z s.1 4 [some (aV ω s.2.1), some (iV s.2.2.1), some (iV s.2.2.2.1), some (iV s.2.2.2.2)] []) ?_ _ _ _ hL
  intro k hk s o h9
  have h10 := KCc_rowOf_b4_body (ω := ω) (z := z) (k4 := k) (h := s.1) (x0 := s.2.1) (x1 := s.2.2.1) (x2 := s.2.2.2.1) (x3 := s.2.2.2.2) (r := o.1) (h' := o.2) 
  exact h10 hk h9
set_option maxHeartbeats 1000000 in
set_option maxRecDepth 100000 in
theorem M_Cc_rowOf {ω : Wd} {z : Nat → Prop} {h h' : Hp} {a0 a1 r : Int}  (hL : Cc_rowOf h a0 a1 = some (r, h')) : CtB ω N_Cc_rowOf 2 [aV ω a0, iV a1] z h (some (iV r)) h' := by
  unfold Cc_rowOf at hL
  refine Ct_of (lv := [some (aV ω a0), some (iV a1), none, none]) (by decide) (Nat.le_trans (sl_1 (cat_aV _ _) (sl_1 (cat_iV _) sl_z)) (Nat.le_of_ble_eq_true rfl)) (la_1 (cat_aV _ _) (la_1 (cat_iV _) (la_n (la_n la_z)))) ?_
  refine ev_iconst (pc := 0) dX9_rowOf_0 ?_
  refine ev_istore_n (pc := 1) (i := 2) dX9_rowOf_1 rfl (lnl_v rfl rfl) (Nat.le_of_ble_eq_true rfl) ?_
  refine ev_iconst (pc := 2) dX9_rowOf_2 ?_
  refine ev_istore_n (pc := 3) (i := 3) dX9_rowOf_3 rfl (lnl_v rfl rfl) (Nat.le_of_ble_eq_true rfl) ?_
  exact ev_le (lvle_s (lvle_s (lvle_s (lvle_s lvle_z)))) (KCc_rowOf_b4  hL)
set_option maxHeartbeats 1000000 in
set_option maxRecDepth 100000 in
theorem KCc_run_b85 {ω : Wd} {z : Nat → Prop}  {h h' : Hp} {x0 x2 x3 x4 x5 r : Int}  (hL : Cc_run_b85 h x0 x2 x3 x4 x5 = some (r, h')) : EvB ω N_Cc_run 8 (QB (some (iV r)) z h') z h 85 [some (aV ω x0), none, some (iV x2), some (aV ω x3), some (aV ω x4), some (iV x5), none] [] := by
  unfold Cc_run_b85 at hL
  refine ev_iload_n (pc := 85) (i := 2) dX9_run_85 rfl rfl ?_
  refine ev_iconst (pc := 86) dX9_run_86 ?_
  refine ev_icmp_ne (pc := 87) (tgt := 104) dX9_run_87 rfl hL rfl (fun hL => ?_) (fun hL => ?_)
  · refine ev_aload (pc := 90) dX9_run_90 rfl ?_
    obtain ⟨hs23, hL⟩ := cC_un hL
    refine ev_get (pc := 92) (c9 := 7) (k9 := 7) dX9_run_92 fl_Cc_269 (by decide) hs23 gv7_7 ?_
    refine ev_aload_n (pc := 95) (i := 0) dX9_run_95 rfl rfl ?_
    obtain ⟨hs24, hL⟩ := cC_un hL
    refine ev_get (pc := 96) (c9 := 9) (k9 := 10) dX9_run_96 fl_Cc_58 (by decide) hs24 (gv9_10 hs24) ?_
    obtain ⟨hs25, hL⟩ := cC_un hL
    refine ev_get (pc := 99) (c9 := 7) (k9 := 7) dX9_run_99 fl_Cc_269 (by decide) hs25 gv7_7 ?_
    refine ev_isub (pc := 102) dX9_run_102 ?_
    exact evB_iret (pc := 103) dX9_run_103 rfl hL
  · refine ev_iload (pc := 104) dX9_run_104 rfl ?_
    refine ev_aload_n (pc := 106) (i := 3) dX9_run_106 rfl rfl ?_
    obtain ⟨hs26, hL⟩ := cC_un hL
    refine ev_get (pc := 107) (c9 := 6) (k9 := 1) dX9_run_107 fl_Cc_254 (by decide) hs26 gv6_1 ?_
    refine ev_icmp_ne (pc := 110) (tgt := 117) dX9_run_110 rfl hL rfl (fun hL => ?_) (fun hL => ?_)
    · refine ev_iconst (pc := 113) dX9_run_113 ?_
      refine ev_goto (pc := 114) (tgt := 119) dX9_run_114 rfl ?_
      exact evB_iret (pc := 119) dX9_run_119 rfl hL
    · refine ev_iload (pc := 117) dX9_run_117 rfl ?_
      exact evB_iret (pc := 119) dX9_run_119 rfl hL
set_option maxHeartbeats 1000000 in
set_option maxRecDepth 100000 in
theorem KCc_run_b55_body {ω : Wd} {z : Nat → Prop}  {k55 : Hp × Int × Int × Int × Int × Int × Int → Option (Int × Hp)} {h h' : Hp} {x0 x2 x3 x4 x5 x6 r : Int}  (hk55 : ∀ s o, k55 s = some o → EvB ω N_Cc_run 8 (QB (some (iV o.1)) z o.2) z s.1 55 [some (aV ω s.2.1), none, some (iV s.2.2.1), some (aV ω s.2.2.2.1), some (aV ω s.2.2.2.2.1), some (iV s.2.2.2.2.2.1), some (iV s.2.2.2.2.2.2)] []) (hL : Cc_run_b55_body  k55 h x0 x2 x3 x4 x5 x6 = some (r, h')) : EvB ω N_Cc_run 8 (QB (some (iV r)) z h') z h 55 [some (aV ω x0), none, some (iV x2), some (aV ω x3), some (aV ω x4), some (iV x5), some (iV x6)] [] := by
  unfold Cc_run_b55_body at hL
  refine ev_iload (pc := 55) dX9_run_55 rfl ?_
  refine ev_aload_n (pc := 57) (i := 3) dX9_run_57 rfl rfl ?_
  obtain ⟨hs18, hL⟩ := cC_un hL
  refine ev_get (pc := 58) (c9 := 6) (k9 := 1) dX9_run_58 fl_Cc_254 (by decide) hs18 gv6_1 ?_
  refine ev_icmp_ge (pc := 61) (tgt := 85) dX9_run_61 rfl hL rfl (fun hL => ?_) (fun hL => ?_)
  · refine ev_aload_n (pc := 64) (i := 0) dX9_run_64 rfl rfl ?_
    refine ev_aload (pc := 65) dX9_run_65 rfl ?_
    refine ev_aload_n (pc := 67) (i := 3) dX9_run_67 rfl rfl ?_
    refine ev_iload (pc := 68) dX9_run_68 rfl ?_
    obtain ⟨hs19, hL⟩ := cC_un hL
    obtain ⟨r20, h21, hc22, hL⟩ := cl_un hL
    refine evB_callV_I (pc := 70) (M_Cc_stepIn hc22) dX9_run_70 mt_Cc_stepIn st_Cc_stepIn ml_Cc_265 hs19 (by decide) ⟨_, rfl, rfl⟩ (Nat.le_of_ble_eq_true rfl) rfl rfl (Nat.le_trans sm_z (by decide)) ?_
    refine ev_if_eq (pc := 73) (tgt := 85) dX9_run_73 rfl hL rfl (fun hL => ?_) (fun hL => ?_)
    · exact ev_le (lvle_s (lvle_n (lvle_s (lvle_s (lvle_s (lvle_s (lvle_n lvle_z))))))) (KCc_run_b85  hL)
    · refine ev_iinc (pc := 76) dX9_run_76 rfl (lnl_v (cat_aV _ _) rfl) (Nat.le_of_ble_eq_true rfl) ?_
      refine ev_iinc (pc := 79) dX9_run_79 rfl (lnl_v rfl rfl) (Nat.le_of_ble_eq_true rfl) ?_
      refine ev_goto (pc := 82) (tgt := 55) dX9_run_82 rfl ?_
      exact ev_le (lvle_s (lvle_n (lvle_s (lvle_s (lvle_s (lvle_s (lvle_s lvle_z))))))) (hk55 _ _ hL)
  · exact ev_le (lvle_s (lvle_n (lvle_s (lvle_s (lvle_s (lvle_s (lvle_n lvle_z))))))) (KCc_run_b85  hL)
set_option maxHeartbeats 1000000 in
set_option maxRecDepth 100000 in
theorem KCc_run_b55 {ω : Wd} {z : Nat → Prop}  {h h' : Hp} {x0 x2 x3 x4 x5 x6 r : Int}  (hL : Cc_run_b55 h x0 x2 x3 x4 x5 x6 = some (r, h')) : EvB ω N_Cc_run 8 (QB (some (iV r)) z h') z h 55 [some (aV ω x0), none, some (iV x2), some (aV ω x3), some (aV ω x4), some (iV x5), some (iV x6)] [] := by
  unfold Cc_run_b55 at hL
  refine itr_link (P := fun (s : Hp × Int × Int × Int × Int × Int × Int) (o : Int × Hp) => EvB ω N_Cc_run 8 (QB (some (iV o.1)) z o.2) z s.1 55 [some (aV ω s.2.1), none, some (iV s.2.2.1), some (aV ω s.2.2.2.1), some (aV ω s.2.2.2.2.1), some (iV s.2.2.2.2.2.1), some (iV s.2.2.2.2.2.2)] []) ?_ _ _ _ hL
  intro k hk s o h9
  have h10 := KCc_run_b55_body (ω := ω) (z := z) (k55 := k) (h := s.1) (x0 := s.2.1) (x2 := s.2.2.1) (x3 := s.2.2.2.1) (x4 := s.2.2.2.2.1) (x5 := s.2.2.2.2.2.1) (x6 := s.2.2.2.2.2.2) (r := o.1) (h' := o.2) 
  exact h10 hk h9
set_option maxHeartbeats 1000000 in
set_option maxRecDepth 100000 in
theorem M_Cc_run {ω : Wd} {z : Nat → Prop} {h h' : Hp} {a0 a1 a2 r : Int}  (hL : Cc_run h a0 a1 a2 = some (r, h')) : CtB ω N_Cc_run 8 [aV ω a0, iV a1, iV a2] z h (some (iV r)) h' := by
  unfold Cc_run at hL
  refine Ct_of (lv := [some (aV ω a0), some (iV a1), some (iV a2), none, none, none, none]) (by decide) (Nat.le_trans (sl_1 (cat_aV _ _) (sl_1 (cat_iV _) (sl_1 (cat_iV _) sl_z))) (Nat.le_of_ble_eq_true rfl)) (la_1 (cat_aV _ _) (la_1 (cat_iV _) (la_1 (cat_iV _) (la_n (la_n (la_n (la_n la_z))))))) ?_
  refine ev_aload_n (pc := 0) (i := 0) dX9_run_0 rfl rfl ?_
  refine ev_iload_n (pc := 1) (i := 1) dX9_run_1 rfl rfl ?_
  obtain ⟨hs1, hL⟩ := cC_un hL
  obtain ⟨r2, h3, hc4, hL⟩ := cl_un hL
  refine evB_callV_I (pc := 2) (M_Cc_isSession hc4) dX9_run_2 mt_Cc_isSession st_Cc_isSession ml_Cc_246 hs1 (by decide) ⟨_, rfl, rfl⟩ (Nat.le_of_ble_eq_true rfl) rfl rfl (Nat.le_trans sm_z (by decide)) ?_
  refine ev_if_eq (pc := 5) (tgt := 24) dX9_run_5 rfl hL rfl (fun hL => ?_) (fun hL => ?_)
  · refine ev_ldc (pc := 24) (x := (-1000000)) dX9_run_24 w_c_Cc_249 ?_
    exact evB_iret (pc := 26) dX9_run_26 rfl hL
  · refine ev_aload_n (pc := 8) (i := 0) dX9_run_8 rfl rfl ?_
    obtain ⟨r5, h6, hc7, hL⟩ := cl_un hL
    refine evB_callV_I (pc := 9) (M_Cc_isTold hc7) dX9_run_9 mt_Cc_isTold st_Cc_isTold ml_Cc_223 hs1 (by decide) ⟨_, rfl, rfl⟩ (Nat.le_of_ble_eq_true rfl) rfl rfl (Nat.le_trans sm_z (by decide)) ?_
    refine ev_if_eq (pc := 12) (tgt := 24) dX9_run_12 rfl hL rfl (fun hL => ?_) (fun hL => ?_)
    · refine ev_ldc (pc := 24) (x := (-1000000)) dX9_run_24 w_c_Cc_249 ?_
      exact evB_iret (pc := 26) dX9_run_26 rfl hL
    · refine ev_iload_n (pc := 15) (i := 2) dX9_run_15 rfl rfl ?_
      refine ev_if_lt (pc := 16) (tgt := 24) dX9_run_16 rfl hL rfl (fun hL => ?_) (fun hL => ?_)
      · refine ev_ldc (pc := 24) (x := (-1000000)) dX9_run_24 w_c_Cc_249 ?_
        exact evB_iret (pc := 26) dX9_run_26 rfl hL
      · refine ev_iload_n (pc := 19) (i := 2) dX9_run_19 rfl rfl ?_
        refine ev_iconst (pc := 20) dX9_run_20 ?_
        refine ev_icmp_le (pc := 21) (tgt := 27) dX9_run_21 rfl hL rfl (fun hL => ?_) (fun hL => ?_)
        · refine ev_ldc (pc := 24) (x := (-1000000)) dX9_run_24 w_c_Cc_249 ?_
          exact evB_iret (pc := 26) dX9_run_26 rfl hL
        · refine ev_aload_n (pc := 27) (i := 0) dX9_run_27 rfl rfl ?_
          refine ev_iload_n (pc := 28) (i := 1) dX9_run_28 rfl rfl ?_
          obtain ⟨r8, h9, hc10, hL⟩ := cl_un hL
          refine evB_callV_A (pc := 29) (M_Cc_sessionAt hc10) dX9_run_29 mt_Cc_sessionAt st_Cc_sessionAt ml_Cc_250 hs1 (by decide) ⟨_, rfl, rfl⟩ (Nat.le_of_ble_eq_true rfl) rfl rfl (Nat.le_trans sm_z (by decide)) ?_
          refine ev_astore_n (pc := 32) (i := 3) (isA_aV _ _) dX9_run_32 rfl (lnl_v rfl rfl) (Nat.le_of_ble_eq_true rfl) ?_
          refine ev_aload_n (pc := 33) (i := 0) dX9_run_33 rfl rfl ?_
          refine ev_iconst (pc := 34) dX9_run_34 ?_
          obtain ⟨r11, h12, hc13, hL⟩ := cl_un hL
          refine evB_callV_A (pc := 35) (M_Cc_apartAt hc13) dX9_run_35 mt_Cc_apartAt st_Cc_apartAt ml_Cc_258 hs1 (by decide) ⟨_, rfl, rfl⟩ (Nat.le_of_ble_eq_true rfl) rfl rfl (Nat.le_trans sm_z (by decide)) ?_
          refine ev_astore (pc := 38) (isA_aV _ _) dX9_run_38 (lnl_v (cat_aV _ _) rfl) (Nat.le_of_ble_eq_true rfl) ?_
          refine ev_aload (pc := 40) dX9_run_40 rfl ?_
          refine ev_aload_n (pc := 42) (i := 0) dX9_run_42 rfl rfl ?_
          refine ev_get (pc := 43) (c9 := 9) (k9 := 10) dX9_run_43 fl_Cc_58 (by decide) hs1 (gv9_10 hs1) ?_
          obtain ⟨hs14, hL⟩ := cC_un hL
          obtain ⟨r15, h16, hc17, hL⟩ := cl_un hL
          refine evB_callV_V (pc := 46) (M_St_copy hc17) dX9_run_46 mt_St_copy st_St_copy ml_Cc_262 hs14 (by decide) ⟨_, rfl, rfl⟩ (Nat.le_of_ble_eq_true rfl) rfl rfl (Nat.le_trans sm_z (by decide)) ?_
          refine ev_iconst (pc := 49) dX9_run_49 ?_
          refine ev_istore (pc := 50) dX9_run_50 (lnl_v (cat_aV _ _) rfl) (Nat.le_of_ble_eq_true rfl) ?_
          refine ev_iconst (pc := 52) dX9_run_52 ?_
          refine ev_istore (pc := 53) dX9_run_53 (lnl_v rfl rfl) (Nat.le_of_ble_eq_true rfl) ?_
          exact ev_le (lvle_s (lvle_n (lvle_s (lvle_s (lvle_s (lvle_s (lvle_s lvle_z))))))) (KCc_run_b55  hL)
set_option maxHeartbeats 1000000 in
set_option maxRecDepth 100000 in
theorem M_Cc_sentence {ω : Wd} {z : Nat → Prop} {h h' : Hp} {a0 a1 r : Int}  (hL : Cc_sentence h a0 a1 = some (r, h')) : CtB ω N_Cc_sentence 6 [aV ω a0, iV a1] z h (some (iV r)) h' := by
  unfold Cc_sentence at hL
  refine Ct_of (lv := [some (aV ω a0), some (iV a1)]) (by decide) (Nat.le_trans (sl_1 (cat_aV _ _) (sl_1 (cat_iV _) sl_z)) (Nat.le_of_ble_eq_true rfl)) (la_1 (cat_aV _ _) (la_1 (cat_iV _) la_z)) ?_
  refine ev_aload_n (pc := 0) (i := 0) dX9_sentence_0 rfl rfl ?_
  obtain ⟨hs1, hL⟩ := cC_un hL
  refine ev_get (pc := 1) (c9 := 9) (k9 := 14) dX9_sentence_1 fl_Cc_75 (by decide) hs1 (gv9_14 hs1) ?_
  refine ev_aload_n (pc := 4) (i := 0) dX9_sentence_4 rfl rfl ?_
  refine ev_get (pc := 5) (c9 := 9) (k9 := 10) dX9_sentence_5 fl_Cc_58 (by decide) hs1 (gv9_10 hs1) ?_
  obtain ⟨hs2, hL⟩ := cC_un hL
  obtain ⟨r3, h4, hc5, hL⟩ := cl_un hL
  refine evB_callV_V (pc := 8) (M_Ps_offer hc5) dX9_sentence_8 mt_Ps_offer st_Ps_offer ml_Cc_173 hs2 (by decide) ⟨_, rfl, rfl⟩ (Nat.le_of_ble_eq_true rfl) rfl rfl (Nat.le_trans sm_z (by decide)) ?_
  refine ev_aload_n (pc := 11) (i := 0) dX9_sentence_11 rfl rfl ?_
  refine ev_aload_n (pc := 12) (i := 0) dX9_sentence_12 rfl rfl ?_
  refine ev_get (pc := 13) (c9 := 9) (k9 := 10) dX9_sentence_13 fl_Cc_58 (by decide) hs1 (gv9_10 hs1) ?_
  refine ev_iload_n (pc := 16) (i := 1) dX9_sentence_16 rfl rfl ?_
  obtain ⟨r6, h7, hc8, hL⟩ := cl_un hL
  refine evB_callV_I (pc := 17) (M_Cc_sentenceIn hc8) dX9_sentence_17 mt_Cc_sentenceIn st_Cc_sentenceIn ml_Cc_177 hs1 (by decide) ⟨_, rfl, rfl⟩ (Nat.le_of_ble_eq_true rfl) rfl rfl (Nat.le_trans sm_z (by decide)) ?_
  refine ev_if_ne (pc := 20) (tgt := 25) dX9_sentence_20 rfl hL rfl (fun hL => ?_) (fun hL => ?_)
  · refine ev_iconst (pc := 23) dX9_sentence_23 ?_
    exact evB_iret (pc := 24) dX9_sentence_24 rfl hL
  · refine ev_aload_n (pc := 25) (i := 0) dX9_sentence_25 rfl rfl ?_
    refine ev_get (pc := 26) (c9 := 9) (k9 := 14) dX9_sentence_26 fl_Cc_75 (by decide) hs1 (gv9_14 hs1) ?_
    obtain ⟨r9, h10, hc11, hL⟩ := cl_un hL
    refine evB_callV_V (pc := 29) (M_Ps_keep hc11) dX9_sentence_29 mt_Ps_keep st_Ps_keep ml_Cc_181 hs2 (by decide) ⟨_, rfl, rfl⟩ (Nat.le_of_ble_eq_true rfl) rfl rfl (Nat.le_trans sm_z (by decide)) ?_
    refine ev_aload_n (pc := 32) (i := 0) dX9_sentence_32 rfl rfl ?_
    refine ev_get (pc := 33) (c9 := 9) (k9 := 10) dX9_sentence_33 fl_Cc_58 (by decide) hs1 (gv9_10 hs1) ?_
    refine ev_aload_n (pc := 36) (i := 0) dX9_sentence_36 rfl rfl ?_
    refine ev_get (pc := 37) (c9 := 9) (k9 := 1) dX9_sentence_37 fl_Cc_19 (by decide) hs1 gv9_1 ?_
    refine ev_iload_n (pc := 40) (i := 1) dX9_sentence_40 rfl rfl ?_
    obtain ⟨hs12, hL⟩ := cC_un hL
    obtain ⟨r13, h14, hc15, hL⟩ := cl_un hL
    refine evB_callV_I (pc := 41) (M_Cy_whoOf hc15) dX9_sentence_41 mt_Cy_whoOf st_Cy_whoOf ml_Cc_157 hs12 (by decide) ⟨_, rfl, rfl⟩ (Nat.le_of_ble_eq_true rfl) rfl rfl (Nat.le_trans (sm_1 (cat_aV _ _) sm_z) (by decide)) ?_
    refine ev_aload_n (pc := 44) (i := 0) dX9_sentence_44 rfl rfl ?_
    refine ev_get (pc := 45) (c9 := 9) (k9 := 1) dX9_sentence_45 fl_Cc_19 (by decide) hs1 gv9_1 ?_
    refine ev_iload_n (pc := 48) (i := 1) dX9_sentence_48 rfl rfl ?_
    obtain ⟨hs16, hL⟩ := cC_un hL
    obtain ⟨r17, h18, hc19, hL⟩ := cl_un hL
    refine evB_callV_I (pc := 49) (M_Cy_whomOf hc19) dX9_sentence_49 mt_Cy_whomOf st_Cy_whomOf ml_Cc_160 hs16 (by decide) ⟨_, rfl, rfl⟩ (Nat.le_of_ble_eq_true rfl) rfl rfl (Nat.le_trans (sm_1 (cat_iV _) (sm_1 (cat_aV _ _) sm_z)) (by decide)) ?_
    obtain ⟨hs20, hL⟩ := cC_un hL
    obtain ⟨r21, h22, hc23, hL⟩ := cl_un hL
    refine evB_callV_I (pc := 52) (M_St_owes hc23) dX9_sentence_52 mt_St_owes st_St_owes ml_Cc_184 hs20 (by decide) ⟨_, rfl, rfl⟩ (Nat.le_of_ble_eq_true rfl) rfl rfl (Nat.le_trans sm_z (by decide)) ?_
    exact evB_iret (pc := 55) dX9_sentence_55 rfl hL
set_option maxHeartbeats 1000000 in
set_option maxRecDepth 100000 in
theorem KCc_served_b16_body {ω : Wd} {z : Nat → Prop}  {k16 : Hp × Int × Int → Option (Int × Hp)} {h h' : Hp} {x1 x2 r : Int}  (hk16 : ∀ s o, k16 s = some o → EvB ω N_Cc_served 6 (QB (some (iV o.1)) z o.2) z s.1 16 [none, some (aV ω s.2.1), some (iV s.2.2)] []) (hL : Cc_served_b16_body  k16 h x1 x2 = some (r, h')) : EvB ω N_Cc_served 6 (QB (some (iV r)) z h') z h 16 [none, some (aV ω x1), some (iV x2)] [] := by
  unfold Cc_served_b16_body at hL
  refine ev_iload_n (pc := 16) (i := 2) dX9_served_16 rfl rfl ?_
  refine ev_bipush (pc := 17) dX9_served_17 (by decide) ?_
  refine ev_icmp_gt (pc := 19) (tgt := 42) dX9_served_19 rfl hL rfl (fun hL => ?_) (fun hL => ?_)
  · refine ev_iconst (pc := 42) dX9_served_42 ?_
    exact evB_iret (pc := 43) dX9_served_43 rfl hL
  · refine ev_aload_n (pc := 22) (i := 1) dX9_served_22 rfl rfl ?_
    obtain ⟨hs8, hL⟩ := cC_un hL
    obtain ⟨r9, h10, hc11, hL⟩ := cl_un hL
    refine evB_callV_I (pc := 23) (M_St_allDebt hc11) dX9_served_23 mt_St_allDebt st_St_allDebt ml_Cc_289 hs8 (by decide) ⟨_, rfl, rfl⟩ (Nat.le_of_ble_eq_true rfl) rfl rfl (Nat.le_trans sm_z (by decide)) ?_
    refine ev_if_ne (pc := 26) (tgt := 31) dX9_served_26 rfl hL rfl (fun hL => ?_) (fun hL => ?_)
    · refine ev_iload_n (pc := 29) (i := 2) dX9_served_29 rfl rfl ?_
      exact evB_iret (pc := 30) dX9_served_30 rfl hL
    · refine ev_aload_n (pc := 31) (i := 1) dX9_served_31 rfl rfl ?_
      refine ev_iconst (pc := 32) dX9_served_32 ?_
      obtain ⟨r12, h13, hc14, hL⟩ := cl_un hL
      refine evB_callV_V (pc := 33) (M_St_pass hc14) dX9_served_33 mt_St_pass st_St_pass ml_Cc_233 hs8 (by decide) ⟨_, rfl, rfl⟩ (Nat.le_of_ble_eq_true rfl) rfl rfl (Nat.le_trans sm_z (by decide)) ?_
      refine ev_iinc (pc := 36) dX9_served_36 rfl (lnl_v (cat_aV _ _) rfl) (Nat.le_of_ble_eq_true rfl) ?_
      refine ev_goto (pc := 39) (tgt := 16) dX9_served_39 rfl ?_
      exact ev_le (lvle_n (lvle_s (lvle_s lvle_z))) (hk16 _ _ hL)
set_option maxHeartbeats 1000000 in
set_option maxRecDepth 100000 in
theorem KCc_served_b16 {ω : Wd} {z : Nat → Prop}  {h h' : Hp} {x1 x2 r : Int}  (hL : Cc_served_b16 h x1 x2 = some (r, h')) : EvB ω N_Cc_served 6 (QB (some (iV r)) z h') z h 16 [none, some (aV ω x1), some (iV x2)] [] := by
  unfold Cc_served_b16 at hL
  refine itr_link (P := fun (s : Hp × Int × Int) (o : Int × Hp) => EvB ω N_Cc_served 6 (QB (some (iV o.1)) z o.2) z s.1 16 [none, some (aV ω s.2.1), some (iV s.2.2)] []) ?_ _ _ _ hL
  intro k hk s o h9
  have h10 := KCc_served_b16_body (ω := ω) (z := z) (k16 := k) (h := s.1) (x1 := s.2.1) (x2 := s.2.2) (r := o.1) (h' := o.2) 
  exact h10 hk h9
set_option maxHeartbeats 1000000 in
set_option maxRecDepth 100000 in
theorem M_Cc_served {ω : Wd} {z : Nat → Prop} {h h' : Hp} {a0 r : Int}  (hL : Cc_served h a0 = some (r, h')) : CtB ω N_Cc_served 6 [aV ω a0] z h (some (iV r)) h' := by
  unfold Cc_served at hL
  refine Ct_of (lv := [some (aV ω a0), none, none]) (by decide) (Nat.le_trans (sl_1 (cat_aV _ _) sl_z) (Nat.le_of_ble_eq_true rfl)) (la_1 (cat_aV _ _) (la_n (la_n la_z))) ?_
  refine ev_aload_n (pc := 0) (i := 0) dX9_served_0 rfl rfl ?_
  obtain ⟨hs1, hL⟩ := cC_un hL
  obtain ⟨r2, h3, hc4, hL⟩ := cl_un hL
  refine evB_callV_I (pc := 1) (M_Cc_isTold hc4) dX9_served_1 mt_Cc_isTold st_Cc_isTold ml_Cc_223 hs1 (by decide) ⟨_, rfl, rfl⟩ (Nat.le_of_ble_eq_true rfl) rfl rfl (Nat.le_trans sm_z (by decide)) ?_
  refine ev_if_ne (pc := 4) (tgt := 9) dX9_served_4 rfl hL rfl (fun hL => ?_) (fun hL => ?_)
  · refine ev_iconst (pc := 7) dX9_served_7 ?_
    exact evB_iret (pc := 8) dX9_served_8 rfl hL
  · refine ev_aload_n (pc := 9) (i := 0) dX9_served_9 rfl rfl ?_
    obtain ⟨r5, h6, hc7, hL⟩ := cl_un hL
    refine evB_callV_A (pc := 10) (M_Cc_copyApart hc7) dX9_served_10 mt_Cc_copyApart st_Cc_copyApart ml_Cc_272 hs1 (by decide) ⟨_, rfl, rfl⟩ (Nat.le_of_ble_eq_true rfl) rfl rfl (Nat.le_trans sm_z (by decide)) ?_
    refine ev_astore_n (pc := 13) (i := 1) (isA_aV _ _) dX9_served_13 rfl (lnl_v (cat_aV _ _) rfl) (Nat.le_of_ble_eq_true rfl) ?_
    refine ev_iconst (pc := 14) dX9_served_14 ?_
    refine ev_istore_n (pc := 15) (i := 2) dX9_served_15 rfl (lnl_v (cat_aV _ _) rfl) (Nat.le_of_ble_eq_true rfl) ?_
    exact ev_le (lvle_n (lvle_s (lvle_s lvle_z))) (KCc_served_b16  hL)
set_option maxHeartbeats 1000000 in
set_option maxRecDepth 100000 in
theorem M_Rw_add {ω : Wd} {z : Nat → Prop} {h h' : Hp} {a0 r : Int}  (hL : Rw_add h a0 = some (r, h')) : CtB ω N_Rw_add 3 [aV ω a0] z h none h' := by
  unfold Rw_add at hL
  refine Ct_of (lv := [some (aV ω a0)]) (by decide) (Nat.le_trans (sl_1 (cat_aV _ _) sl_z) (Nat.le_of_ble_eq_true rfl)) (la_1 (cat_aV _ _) la_z) ?_
  refine ev_aload_n (pc := 0) (i := 0) dX5_add_0 rfl rfl ?_
  obtain ⟨hs1, hL⟩ := cC_un hL
  refine ev_get (pc := 1) (c9 := 5) (k9 := 2) dX5_add_1 fl_Rw_18 (by decide) hs1 gv5_2 ?_
  refine ev_bipush (pc := 4) dX5_add_4 (by decide) ?_
  refine ev_icmp_ge (pc := 6) (tgt := 41) dX5_add_6 rfl hL rfl (fun hL => ?_) (fun hL => ?_)
  · refine ev_aload_n (pc := 9) (i := 0) dX5_add_9 rfl rfl ?_
    refine ev_get (pc := 10) (c9 := 5) (k9 := 0) dX5_add_10 fl_Rw_9 (by decide) hs1 (gv5_0 hs1) ?_
    refine ev_aload_n (pc := 13) (i := 0) dX5_add_13 rfl rfl ?_
    refine ev_get (pc := 14) (c9 := 5) (k9 := 2) dX5_add_14 fl_Rw_18 (by decide) hs1 gv5_2 ?_
    refine ev_aload_n (pc := 17) (i := 0) dX5_add_17 rfl rfl ?_
    refine ev_get (pc := 18) (c9 := 5) (k9 := 1) dX5_add_18 fl_Rw_15 (by decide) hs1 (gv5_1 hs1) ?_
    refine ev_aload_n (pc := 21) (i := 0) dX5_add_21 rfl rfl ?_
    refine ev_get (pc := 22) (c9 := 5) (k9 := 3) dX5_add_22 fl_Rw_22 (by decide) hs1 gv5_3 ?_
    obtain ⟨r2, h3, hc4, hL⟩ := cl_un hL
    refine evB_callS_I (pc := 25) (M_Cc_rowOf hc4) dX5_add_25 mt_Cc_rowOf st_Cc_rowOf ml_Rw_40 (Nat.le_of_ble_eq_true rfl) rfl rfl (Nat.le_trans (sm_1 (cat_iV _) (sm_1 (cat_aV _ _) sm_z)) (by decide)) ?_
    obtain ⟨r5, h6, hc7, hL⟩ := cl_un hL
    refine evB_callS_V (pc := 28) (M_Cc_put hc7) dX5_add_28 mt_Cc_put st_Cc_put ml_Rw_25 (Nat.le_of_ble_eq_true rfl) rfl rfl (Nat.le_trans sm_z (by decide)) ?_
    refine ev_aload_n (pc := 31) (i := 0) dX5_add_31 rfl rfl ?_
    refine ev_dup (pc := 32) dX5_add_32 (cat_aV _ _) ?_
    refine ev_get (pc := 33) (c9 := 5) (k9 := 2) dX5_add_33 fl_Rw_18 (by decide) hs1 gv5_2 ?_
    refine ev_iconst (pc := 36) dX5_add_36 ?_
    refine ev_iadd (pc := 37) dX5_add_37 ?_
    refine evB_putI (pc := 38) (c9 := 5) (k9 := 2) (kI := 2) dX5_add_38 fl_Rw_18 hs1 (by decide) (fun q hq => by cases hq; rfl) rfl rfl rfl ?_
    refine ev_puG hL (fun h8 hL => ?_)
    exact evB_vret (pc := 41) dX5_add_41 rfl hL
  · exact evB_vret (pc := 41) dX5_add_41 rfl hL
