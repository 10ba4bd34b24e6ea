set_option maxHeartbeats 1000000 in
set_option maxRecDepth 100000 in
theorem KCc_ask_b31_body {ω : Wd} {z : Nat → Prop}  {k31 : Hp × Int × Int × Int × Int × Int → Option (Int × Hp)} {h h' : Hp} {x0 x2 x3 x4 x5 r : Int}  (hk31 : ∀ s o, k31 s = some o → EvB ω N_Cc_ask 6 (QB (some (iV o.1)) z o.2) z s.1 31 [some (aV ω s.2.1), none, some (iV s.2.2.1), some (iV s.2.2.2.1), some (iV s.2.2.2.2.1), some (iV s.2.2.2.2.2), none, none] []) (hL : Cc_ask_b31_body  k31 h x0 x2 x3 x4 x5 = some (r, h')) : EvB ω N_Cc_ask 6 (QB (some (iV r)) z h') z h 31 [some (aV ω x0), none, some (iV x2), some (iV x3), some (iV x4), some (iV x5), none, none] [] := by
  unfold Cc_ask_b31_body at hL
  refine ev_iload (pc := 31) dX9_ask_31 rfl ?_
  refine ev_bipush (pc := 33) dX9_ask_33 (by decide) ?_
  refine ev_icmp_gt (pc := 35) (tgt := 81) dX9_ask_35 rfl hL rfl (fun hL => ?_) (fun hL => ?_)
  · refine ev_iload_n (pc := 81) (i := 3) dX9_ask_81 rfl rfl ?_
    exact evB_iret (pc := 82) dX9_ask_82 rfl hL
  · refine ev_aload_n (pc := 38) (i := 0) dX9_ask_38 rfl rfl ?_
    obtain ⟨hs8, hL⟩ := cC_un hL
    refine ev_get (pc := 39) (c9 := 9) (k9 := 16) dX9_ask_39 fl_Cc_89 (by decide) hs8 (gv9_16 hs8) ?_
    refine ev_iload (pc := 42) dX9_ask_42 rfl ?_
    obtain ⟨hs9, hL⟩ := cC_un hL
    obtain ⟨r10, h11, hc12, hL⟩ := cl_un hL
    refine evB_callV_I (pc := 44) (M_Gv_worthsFrom hc12) dX9_ask_44 mt_Gv_worthsFrom st_Gv_worthsFrom ml_Cc_336 hs9 (by decide) ⟨_, rfl, rfl⟩ (Nat.le_of_ble_eq_true rfl) rfl rfl (Nat.le_trans sm_z (by decide)) ?_
    refine ev_istore (pc := 47) dX9_ask_47 (lnl_v rfl rfl) (Nat.le_of_ble_eq_true rfl) ?_
    refine ev_iload (pc := 49) dX9_ask_49 rfl ?_
    refine ev_iload_n (pc := 51) (i := 2) dX9_ask_51 rfl rfl ?_
    refine ev_iload (pc := 52) dX9_ask_52 rfl ?_
    refine ev_isub (pc := 54) dX9_ask_54 ?_
    refine ev_isub (pc := 55) dX9_ask_55 ?_
    refine ev_abs (pc := 56) dX9_ask_56 wm_Cc_339 w_s_abs w_i_Math w_k_abs (Nat.le_trans sm_z (by decide)) (Nat.le_of_ble_eq_true rfl) (Nat.le_refl _) (Nat.le_refl _) ?_
    refine ev_bdI hL (fun v13 hL => ?_)
    refine ev_istore (pc := 59) dX9_ask_59 (lnl_v rfl rfl) (Nat.le_of_ble_eq_true rfl) ?_
    refine ev_iload (pc := 61) dX9_ask_61 rfl ?_
    refine ev_iload (pc := 63) dX9_ask_63 rfl ?_
    refine ev_icmp_ge (pc := 65) (tgt := 75) dX9_ask_65 rfl hL rfl (fun hL => ?_) (fun hL => ?_)
    · refine ev_iload (pc := 68) dX9_ask_68 rfl ?_
      refine ev_istore (pc := 70) dX9_ask_70 (lnl_v rfl rfl) (Nat.le_of_ble_eq_true rfl) ?_
      refine ev_iload (pc := 72) dX9_ask_72 rfl ?_
      refine ev_istore_n (pc := 74) (i := 3) dX9_ask_74 rfl (lnl_v rfl rfl) (Nat.le_of_ble_eq_true rfl) ?_
      refine ev_iinc (pc := 75) dX9_ask_75 rfl (lnl_v rfl rfl) (Nat.le_of_ble_eq_true rfl) ?_
      refine ev_goto (pc := 78) (tgt := 31) dX9_ask_78 rfl ?_
      exact ev_le (lvle_s (lvle_n (lvle_s (lvle_s (lvle_s (lvle_s (lvle_n (lvle_n lvle_z)))))))) (hk31 _ _ hL)
    · refine ev_iinc (pc := 75) dX9_ask_75 rfl (lnl_v rfl rfl) (Nat.le_of_ble_eq_true rfl) ?_
      refine ev_goto (pc := 78) (tgt := 31) dX9_ask_78 rfl ?_
      exact ev_le (lvle_s (lvle_n (lvle_s (lvle_s (lvle_s (lvle_s (lvle_n (lvle_n lvle_z)))))))) (hk31 _ _ hL)
set_option maxHeartbeats 1000000 in
set_option maxRecDepth 100000 in
theorem KCc_ask_b31 {ω : Wd} {z : Nat → Prop}  {h h' : Hp} {x0 x2 x3 x4 x5 r : Int}  (hL : Cc_ask_b31 h x0 x2 x3 x4 x5 = some (r, h')) : EvB ω N_Cc_ask 6 (QB (some (iV r)) z h') z h 31 [some (aV ω x0), none, some (iV x2), some (iV x3), some (iV x4), some (iV x5), none, none] [] := by
  unfold Cc_ask_b31 at hL
  refine itr_link (P := fun (s : Hp × Int × Int × Int × Int × Int) (o : Int × Hp) => EvB ω N_Cc_ask 6 (QB (some (iV o.1)) z o.2) z s.1 31 [some (aV ω s.2.1), none, some (iV s.2.2.1), some (iV s.2.2.2.1), some (iV s.2.2.2.2.1), some (iV s.2.2.2.2.2), none, none] []) ?_ _ _ _ hL
  intro k hk s o h9
  have h10 := KCc_ask_b31_body (ω := ω) (z := z) (k31 := k) (h := s.1) (x0 := s.2.1) (x2 := s.2.2.1) (x3 := s.2.2.2.1) (x4 := s.2.2.2.2.1) (x5 := s.2.2.2.2.2) (r := o.1) (h' := o.2) 
  exact h10 hk h9
set_option maxHeartbeats 1000000 in
set_option maxRecDepth 100000 in
theorem M_Cc_ask {ω : Wd} {z : Nat → Prop} {h h' : Hp} {a0 a1 r : Int}  (hL : Cc_ask h a0 a1 = some (r, h')) : CtB ω N_Cc_ask 6 [aV ω a0, iV a1] z h (some (iV r)) h' := by
  unfold Cc_ask at hL
  refine Ct_of (lv := [some (aV ω a0), some (iV a1), none, none, none, none, none, none]) (by decide) (Nat.le_trans (sl_1 (cat_aV _ _) (sl_1 (cat_iV _) sl_z)) (Nat.le_of_ble_eq_true rfl)) (la_1 (cat_aV _ _) (la_1 (cat_iV _) (la_n (la_n (la_n (la_n (la_n (la_n la_z)))))))) ?_
  refine ev_aload_n (pc := 0) (i := 0) dX9_ask_0 rfl rfl ?_
  refine ev_iload_n (pc := 1) (i := 1) dX9_ask_1 rfl rfl ?_
  obtain ⟨hs1, hL⟩ := cC_un hL
  obtain ⟨r2, h3, hc4, hL⟩ := cl_un hL
  refine evB_callV_I (pc := 2) (M_Cc_isWrong hc4) dX9_ask_2 mt_Cc_isWrong st_Cc_isWrong ml_Cc_154 hs1 (by decide) ⟨_, rfl, rfl⟩ (Nat.le_of_ble_eq_true rfl) rfl rfl (Nat.le_trans sm_z (by decide)) ?_
  refine ev_if_ne (pc := 5) (tgt := 10) dX9_ask_5 rfl hL rfl (fun hL => ?_) (fun hL => ?_)
  · refine ev_iconst (pc := 8) dX9_ask_8 ?_
    exact evB_iret (pc := 9) dX9_ask_9 rfl hL
  · refine ev_aload_n (pc := 10) (i := 0) dX9_ask_10 rfl rfl ?_
    refine ev_iload_n (pc := 11) (i := 1) dX9_ask_11 rfl rfl ?_
    obtain ⟨r5, h6, hc7, hL⟩ := cl_un hL
    refine evB_callV_I (pc := 12) (M_Cc_fit hc7) dX9_ask_12 mt_Cc_fit st_Cc_fit ml_Cc_327 hs1 (by decide) ⟨_, rfl, rfl⟩ (Nat.le_of_ble_eq_true rfl) rfl rfl (Nat.le_trans sm_z (by decide)) ?_
    refine ev_istore_n (pc := 15) (i := 2) dX9_ask_15 rfl (lnl_v rfl rfl) (Nat.le_of_ble_eq_true rfl) ?_
    refine ev_iload_n (pc := 16) (i := 2) dX9_ask_16 rfl rfl ?_
    refine ev_if_ne (pc := 17) (tgt := 22) dX9_ask_17 rfl hL rfl (fun hL => ?_) (fun hL => ?_)
    · refine ev_iconst (pc := 20) dX9_ask_20 ?_
      exact evB_iret (pc := 21) dX9_ask_21 rfl hL
    · refine ev_iconst (pc := 22) dX9_ask_22 ?_
      refine ev_istore_n (pc := 23) (i := 3) dX9_ask_23 rfl (lnl_v rfl rfl) (Nat.le_of_ble_eq_true rfl) ?_
      refine ev_bipush (pc := 24) dX9_ask_24 (by decide) ?_
      refine ev_istore (pc := 26) dX9_ask_26 (lnl_v rfl rfl) (Nat.le_of_ble_eq_true rfl) ?_
      refine ev_iconst (pc := 28) dX9_ask_28 ?_
      refine ev_istore (pc := 29) dX9_ask_29 (lnl_v rfl rfl) (Nat.le_of_ble_eq_true rfl) ?_
      exact ev_le (lvle_s (lvle_n (lvle_s (lvle_s (lvle_s (lvle_s (lvle_n (lvle_n lvle_z)))))))) (KCc_ask_b31  hL)
set_option maxHeartbeats 1000000 in
set_option maxRecDepth 100000 in
theorem KLg_restore_b2_body {ω : Wd} {z : Nat → Prop}  {k2 : Hp × Int × Int × Int → Option (Int × Hp)} {h h' : Hp} {x0 x1 x2 r : Int}  (hk2 : ∀ s o, k2 s = some o → EvB ω N_Lg_restore 2 (QB none z o.2) z s.1 2 [some (aV ω s.2.1), some (aV ω s.2.2.1), some (iV s.2.2.2)] []) (hL : Lg_restore_b2_body  k2 h x0 x1 x2 = some (r, h')) : EvB ω N_Lg_restore 2 (QB none z h') z h 2 [some (aV ω x0), some (aV ω x1), some (iV x2)] [] := by
  unfold Lg_restore_b2_body at hL
  refine ev_iload_n (pc := 2) (i := 2) dX3_restore_2 rfl rfl ?_
  refine ev_bipush (pc := 3) dX3_restore_3 (by decide) ?_
  refine ev_icmp_ge (pc := 5) (tgt := 35) dX3_restore_5 rfl hL rfl (fun hL => ?_) (fun hL => ?_)
  · refine ev_aload_n (pc := 8) (i := 0) dX3_restore_8 rfl rfl ?_
    obtain ⟨hs1, hL⟩ := cC_un hL
    refine ev_get (pc := 9) (c9 := 3) (k9 := 0) dX3_restore_9 fl_Lg_9 (by decide) hs1 (gv3_0 hs1) ?_
    refine ev_aload_n (pc := 12) (i := 1) dX3_restore_12 rfl rfl ?_
    obtain ⟨hs2, hL⟩ := cC_un hL
    refine ev_get (pc := 13) (c9 := 7) (k9 := 8) dX3_restore_13 fl_Lg_18 (by decide) hs2 gv7_8 ?_
    refine ev_iload_n (pc := 16) (i := 2) dX3_restore_16 rfl rfl ?_
    refine ev_isub (pc := 17) dX3_restore_17 ?_
    refine ev_aload_n (pc := 18) (i := 0) dX3_restore_18 rfl rfl ?_
    refine ev_get (pc := 19) (c9 := 3) (k9 := 1) dX3_restore_19 fl_Lg_15 (by decide) hs1 (gv3_1 hs1) ?_
    refine ev_iload_n (pc := 22) (i := 2) dX3_restore_22 rfl rfl ?_
    obtain ⟨r3, h4, hc5, hL⟩ := cl_un hL
    refine evB_callS_I (pc := 23) (M_Cc_at hc5) dX3_restore_23 mt_Cc_at st_Cc_at ml_Lg_44 (Nat.le_of_ble_eq_true rfl) rfl rfl (Nat.le_trans (sm_1 (cat_iV _) (sm_1 (cat_aV _ _) sm_z)) (by decide)) ?_
    obtain ⟨r6, h7, hc8, hL⟩ := cl_un hL
    refine evB_callS_V (pc := 26) (M_Cc_put hc8) dX3_restore_26 mt_Cc_put st_Cc_put ml_Lg_40 (Nat.le_of_ble_eq_true rfl) rfl rfl (Nat.le_trans sm_z (by decide)) ?_
    refine ev_iinc (pc := 29) dX3_restore_29 rfl (lnl_v (cat_aV _ _) rfl) (Nat.le_of_ble_eq_true rfl) ?_
    refine ev_goto (pc := 32) (tgt := 2) dX3_restore_32 rfl ?_
    exact ev_le (lvle_s (lvle_s (lvle_s lvle_z))) (hk2 _ _ hL)
  · exact evB_vret (pc := 35) dX3_restore_35 rfl hL
set_option maxHeartbeats 1000000 in
set_option maxRecDepth 100000 in
theorem KLg_restore_b2 {ω : Wd} {z : Nat → Prop}  {h h' : Hp} {x0 x1 x2 r : Int}  (hL : Lg_restore_b2 h x0 x1 x2 = some (r, h')) : EvB ω N_Lg_restore 2 (QB none z h') z h 2 [some (aV ω x0), some (aV ω x1), some (iV x2)] [] := by
  unfold Lg_restore_b2 at hL
  refine itr_link (P := fun (s : Hp × Int × Int × Int) (o : Int × Hp) => EvB ω N_Lg_restore 2 (QB none z o.2) z s.1 2 [some (aV ω s.2.1), some (aV ω s.2.2.1), some (iV s.2.2.2)] []) ?_ _ _ _ hL
  intro k hk s o h9
  have h10 := KLg_restore_b2_body (ω := ω) (z := z) (k2 := k) (h := s.1) (x0 := s.2.1) (x1 := s.2.2.1) (x2 := s.2.2.2) (r := o.1) (h' := o.2) 
  exact h10 hk h9
set_option maxHeartbeats 1000000 in
set_option maxRecDepth 100000 in
theorem M_Lg_restore {ω : Wd} {z : Nat → Prop} {h h' : Hp} {a0 a1 r : Int}  (hL : Lg_restore h a0 a1 = some (r, h')) : CtB ω N_Lg_restore 2 [aV ω a0, aV ω a1] z h none h' := by
  unfold Lg_restore at hL
  refine Ct_of (lv := [some (aV ω a0), some (aV ω a1), none]) (by decide) (Nat.le_trans (sl_1 (cat_aV _ _) (sl_1 (cat_aV _ _) sl_z)) (Nat.le_of_ble_eq_true rfl)) (la_1 (cat_aV _ _) (la_1 (cat_aV _ _) (la_n la_z))) ?_
  refine ev_iconst (pc := 0) dX3_restore_0 ?_
  refine ev_istore_n (pc := 1) (i := 2) dX3_restore_1 rfl (lnl_v (cat_aV _ _) rfl) (Nat.le_of_ble_eq_true rfl) ?_
  exact ev_le (lvle_s (lvle_s (lvle_s lvle_z))) (KLg_restore_b2  hL)
set_option maxHeartbeats 1000000 in
set_option maxRecDepth 100000 in
theorem M_Ps_forget {ω : Wd} {z : Nat → Prop} {h h' : Hp} {a0 r : Int}  (hL : Ps_forget h a0 = some (r, h')) : CtB ω N_Ps_forget 1 [aV ω a0] z h none h' := by
  unfold Ps_forget at hL
  refine Ct_of (lv := [some (aV ω a0)]) (by decide) (Nat.le_trans (sl_1 (cat_aV _ _) sl_z) (Nat.le_of_ble_eq_true rfl)) (la_1 (cat_aV _ _) la_z) ?_
  refine ev_aload_n (pc := 0) (i := 0) dX4_forget_0 rfl rfl ?_
  refine ev_iconst (pc := 1) dX4_forget_1 ?_
  obtain ⟨hs1, hL⟩ := cC_un hL
  refine evB_putI (pc := 2) (c9 := 4) (k9 := 2) (kI := 2) dX4_forget_2 fl_Ps_21 hs1 (by decide) (fun q hq => by cases hq; rfl) rfl rfl rfl ?_
  refine ev_puG hL (fun h2 hL => ?_)
  exact evB_vret (pc := 5) dX4_forget_5 rfl hL
set_option maxHeartbeats 1000000 in
set_option maxRecDepth 100000 in
theorem M_Cc_back {ω : Wd} {z : Nat → Prop} {h h' : Hp} {a0 r : Int}  (hL : Cc_back h a0 = some (r, h')) : CtB ω N_Cc_back 3 [aV ω a0] z h (some (iV r)) h' := by
  unfold Cc_back at hL
  refine Ct_of (lv := [some (aV ω a0)]) (by decide) (Nat.le_trans (sl_1 (cat_aV _ _) sl_z) (Nat.le_of_ble_eq_true rfl)) (la_1 (cat_aV _ _) la_z) ?_
  refine ev_aload_n (pc := 0) (i := 0) dX9_back_0 rfl rfl ?_
  obtain ⟨hs1, hL⟩ := cC_un hL
  refine ev_get (pc := 1) (c9 := 9) (k9 := 12) dX9_back_1 fl_Cc_64 (by decide) hs1 gv9_12 ?_
  refine ev_if_ne (pc := 4) (tgt := 9) dX9_back_4 rfl hL rfl (fun hL => ?_) (fun hL => ?_)
  · refine ev_iconst (pc := 7) dX9_back_7 ?_
    exact evB_iret (pc := 8) dX9_back_8 rfl hL
  · refine ev_aload_n (pc := 9) (i := 0) dX9_back_9 rfl rfl ?_
    refine ev_get (pc := 10) (c9 := 9) (k9 := 10) dX9_back_10 fl_Cc_58 (by decide) hs1 (gv9_10 hs1) ?_
    refine ev_aload_n (pc := 13) (i := 0) dX9_back_13 rfl rfl ?_
    refine ev_get (pc := 14) (c9 := 9) (k9 := 11) dX9_back_14 fl_Cc_61 (by decide) hs1 (gv9_11 hs1) ?_
    obtain ⟨hs2, hL⟩ := cC_un hL
    obtain ⟨r3, h4, hc5, hL⟩ := cl_un hL
    refine evB_callV_V (pc := 17) (M_St_copy hc5) dX9_back_17 mt_St_copy st_St_copy ml_Cc_262 hs2 (by decide) ⟨_, rfl, rfl⟩ (Nat.le_of_ble_eq_true rfl) rfl rfl (Nat.le_trans sm_z (by decide)) ?_
    refine ev_aload_n (pc := 20) (i := 0) dX9_back_20 rfl rfl ?_
    refine ev_get (pc := 21) (c9 := 9) (k9 := 15) dX9_back_21 fl_Cc_82 (by decide) hs1 (gv9_15 hs1) ?_
    refine ev_aload_n (pc := 24) (i := 0) dX9_back_24 rfl rfl ?_
    refine ev_get (pc := 25) (c9 := 9) (k9 := 10) dX9_back_25 fl_Cc_58 (by decide) hs1 (gv9_10 hs1) ?_
    obtain ⟨hs6, hL⟩ := cC_un hL
    obtain ⟨r7, h8, hc9, hL⟩ := cl_un hL
    refine evB_callV_V (pc := 28) (M_Lg_restore hc9) dX9_back_28 mt_Lg_restore st_Lg_restore ml_Cc_385 hs6 (by decide) ⟨_, rfl, rfl⟩ (Nat.le_of_ble_eq_true rfl) rfl rfl (Nat.le_trans sm_z (by decide)) ?_
    refine ev_aload_n (pc := 31) (i := 0) dX9_back_31 rfl rfl ?_
    refine ev_get (pc := 32) (c9 := 9) (k9 := 14) dX9_back_32 fl_Cc_75 (by decide) hs1 (gv9_14 hs1) ?_
    obtain ⟨hs10, hL⟩ := cC_un hL
    obtain ⟨r11, h12, hc13, hL⟩ := cl_un hL
    refine evB_callV_V (pc := 35) (M_Ps_forget hc13) dX9_back_35 mt_Ps_forget st_Ps_forget ml_Cc_388 hs10 (by decide) ⟨_, rfl, rfl⟩ (Nat.le_of_ble_eq_true rfl) rfl rfl (Nat.le_trans sm_z (by decide)) ?_
    refine ev_aload_n (pc := 38) (i := 0) dX9_back_38 rfl rfl ?_
    refine ev_get (pc := 39) (c9 := 9) (k9 := 10) dX9_back_39 fl_Cc_58 (by decide) hs1 (gv9_10 hs1) ?_
    refine ev_get (pc := 42) (c9 := 7) (k9 := 8) dX9_back_42 fl_Cc_227 (by decide) hs2 gv7_8 ?_
    exact evB_iret (pc := 45) dX9_back_45 rfl hL
set_option maxHeartbeats 1000000 in
set_option maxRecDepth 100000 in
theorem MB_Cc_breakingWith {ω : Wd} {z : Nat → Prop} {d0 : Nat} {kf : Hp × Int × Int × Int × Int × Int → Option (Int × Hp)} {h h' : Hp} {a0 a1 a2 a3 a4 a6 r : Int} (hkf : ∀ s o, kf s = some o → CtB ω N_Cc_breaking d0 [aV ω s.2.1, iV s.2.2.1, iV s.2.2.2.1, iV s.2.2.2.2.1, lV s.2.2.2.2.2] z s.1 (some (lV o.1)) o.2) (hL : Cc_breakingWith kf h a0 a1 a2 a3 a4 a6 = some (r, h')) : CtB ω N_Cc_breakingWith (d0 + 6) [aV ω a0, iV a1, iV a2, iV a3, lV a4, iV a6] z h (some (lV r)) h' := by
  unfold Cc_breakingWith at hL
  refine Ct_of (lv := [some (aV ω a0), some (iV a1), some (iV a2), some (iV a3), some (lV a4), none, some (iV a6), none]) (by decide) (Nat.le_trans (sl_1 (cat_aV _ _) (sl_1 (cat_iV _) (sl_1 (cat_iV _) (sl_1 (cat_iV _) (sl_2 (cat_lV _) (sl_1 (cat_iV _) sl_z)))))) (Nat.le_of_ble_eq_true rfl)) (la_1 (cat_aV _ _) (la_1 (cat_iV _) (la_1 (cat_iV _) (la_1 (cat_iV _) (la_2 (cat_lV _) (la_1 (cat_iV _) (la_n la_z))))))) ?_
  refine ev_lload (pc := 0) dX9_breakingWith_0 rfl ?_
  refine ev_lconst (pc := 2) (x := 0) dX9_breakingWith_2 rfl ?_
  refine ev_lcmp (pc := 3) dX9_breakingWith_3 ?_
  refine ev_if_gt (pc := 4) (tgt := 9) dX9_breakingWith_4 rfl hL rfl (fun hL => ?_) (fun hL => ?_)
  · refine ev_aload_n (pc := 9) (i := 0) dX9_breakingWith_9 rfl rfl ?_
    refine ev_iload_n (pc := 10) (i := 1) dX9_breakingWith_10 rfl rfl ?_
    refine ev_iconst (pc := 11) dX9_breakingWith_11 ?_
    refine ev_isub (pc := 12) dX9_breakingWith_12 ?_
    obtain ⟨hs1, hL⟩ := cC_un hL
    obtain ⟨r2, h3, hc4, hL⟩ := cl_un hL
    refine evB_callV_A (pc := 13) (M_Cc_apartAt hc4) dX9_breakingWith_13 mt_Cc_apartAt st_Cc_apartAt ml_Cc_258 hs1 (by decide) ⟨_, rfl, rfl⟩ (by omega) rfl rfl (Nat.le_trans sm_z (by decide)) ?_
    refine ev_astore (pc := 16) (isA_aV _ _) dX9_breakingWith_16 (lnl_v rfl rfl) (Nat.le_of_ble_eq_true rfl) ?_
    refine ev_aload (pc := 18) dX9_breakingWith_18 rfl ?_
    refine ev_aload_n (pc := 20) (i := 0) dX9_breakingWith_20 rfl rfl ?_
    refine ev_iload_n (pc := 21) (i := 1) dX9_breakingWith_21 rfl rfl ?_
    obtain ⟨r5, h6, hc7, hL⟩ := cl_un hL
    refine evB_callV_A (pc := 22) (M_Cc_apartAt hc7) dX9_breakingWith_22 mt_Cc_apartAt st_Cc_apartAt ml_Cc_258 hs1 (by decide) ⟨_, rfl, rfl⟩ (by omega) rfl rfl (Nat.le_trans (sm_1 (cat_aV _ _) sm_z) (by decide)) ?_
    obtain ⟨hs8, hL⟩ := cC_un hL
    obtain ⟨r9, h10, hc11, hL⟩ := cl_un hL
    refine evB_callV_V (pc := 25) (M_St_copy hc11) dX9_breakingWith_25 mt_St_copy st_St_copy ml_Cc_262 hs8 (by decide) ⟨_, rfl, rfl⟩ (by omega) rfl rfl (Nat.le_trans sm_z (by decide)) ?_
    refine ev_aload (pc := 28) dX9_breakingWith_28 rfl ?_
    refine ev_iload (pc := 30) dX9_breakingWith_30 rfl ?_
    obtain ⟨r12, h13, hc14, hL⟩ := cl_un hL
    refine evB_callV_V (pc := 32) (M_St_pass hc14) dX9_breakingWith_32 mt_St_pass st_St_pass ml_Cc_233 hs8 (by decide) ⟨_, rfl, rfl⟩ (by omega) rfl rfl (Nat.le_trans sm_z (by decide)) ?_
    refine ev_aload (pc := 35) dX9_breakingWith_35 rfl ?_
    refine ev_get (pc := 37) (c9 := 7) (k9 := 10) dX9_breakingWith_37 fl_Cc_444 (by decide) hs8 gv7_10 ?_
    refine ev_iload_n (pc := 40) (i := 2) dX9_breakingWith_40 rfl rfl ?_
    obtain ⟨r15, h16, hc17, hL⟩ := cl_un hL
    refine evB_callS_I (pc := 41) (M_Cc_holds hc17) dX9_breakingWith_41 mt_Cc_holds st_Cc_holds ml_Cc_447 (by omega) rfl rfl (Nat.le_trans sm_z (by decide)) ?_
    refine ev_if_eq (pc := 44) (tgt := 50) dX9_breakingWith_44 rfl hL rfl (fun hL => ?_) (fun hL => ?_)
    · refine ev_aload_n (pc := 50) (i := 0) dX9_breakingWith_50 rfl rfl ?_
      refine ev_iload_n (pc := 51) (i := 1) dX9_breakingWith_51 rfl rfl ?_
      refine ev_iconst (pc := 52) dX9_breakingWith_52 ?_
      refine ev_isub (pc := 53) dX9_breakingWith_53 ?_
      refine ev_iload_n (pc := 54) (i := 2) dX9_breakingWith_54 rfl rfl ?_
      refine ev_iload_n (pc := 55) (i := 3) dX9_breakingWith_55 rfl rfl ?_
      refine ev_lload (pc := 56) dX9_breakingWith_56 rfl ?_
      obtain ⟨r18, h19, hc20, hL⟩ := cl_un hL
      refine evB_callV_J (pc := 58) (hkf _ _ hc20) dX9_breakingWith_58 mt_Cc_breaking st_Cc_breaking ml_Cc_352 hs1 (by decide) ⟨_, rfl, rfl⟩ (by omega) rfl rfl (Nat.le_trans sm_z (by decide)) ?_
      exact evB_lret (pc := 61) dX9_breakingWith_61 rfl hL
    · refine ev_lload (pc := 47) dX9_breakingWith_47 rfl ?_
      exact evB_lret (pc := 49) dX9_breakingWith_49 rfl hL
  · refine ev_lconst (pc := 7) (x := 0) dX9_breakingWith_7 rfl ?_
    exact evB_lret (pc := 8) dX9_breakingWith_8 rfl hL
set_option maxHeartbeats 1000000 in
set_option maxRecDepth 100000 in
theorem MB_Cc_breaking {ω : Wd} {z : Nat → Prop} {d0 : Nat} {kf : Hp × Int × Int × Int × Int × Int → Option (Int × Hp)} {h h' : Hp} {a0 a1 a2 a3 a4 r : Int} (hkf : ∀ s o, kf s = some o → CtB ω N_Cc_breaking d0 [aV ω s.2.1, iV s.2.2.1, iV s.2.2.2.1, iV s.2.2.2.2.1, lV s.2.2.2.2.2] z s.1 (some (lV o.1)) o.2) (hL : Cc_breaking_body kf h a0 a1 a2 a3 a4 = some (r, h')) : CtB ω N_Cc_breaking (d0 + 7) [aV ω a0, iV a1, iV a2, iV a3, lV a4] z h (some (lV r)) h' := by
  unfold Cc_breaking_body at hL
  refine Ct_of (lv := [some (aV ω a0), some (iV a1), some (iV a2), some (iV a3), some (lV a4), none, none, none]) (by decide) (Nat.le_trans (sl_1 (cat_aV _ _) (sl_1 (cat_iV _) (sl_1 (cat_iV _) (sl_1 (cat_iV _) (sl_2 (cat_lV _) sl_z))))) (Nat.le_of_ble_eq_true rfl)) (la_1 (cat_aV _ _) (la_1 (cat_iV _) (la_1 (cat_iV _) (la_1 (cat_iV _) (la_2 (cat_lV _) (la_n (la_n la_z))))))) ?_
  refine ev_iload_n (pc := 0) (i := 1) dX9_breaking_0 rfl rfl ?_
  refine ev_if_le (pc := 1) (tgt := 10) dX9_breaking_1 rfl hL rfl (fun hL => ?_) (fun hL => ?_)
  · refine ev_iload_n (pc := 4) (i := 1) dX9_breaking_4 rfl rfl ?_
    refine ev_bipush (pc := 5) dX9_breaking_5 (by decide) ?_
    refine ev_icmp_le (pc := 7) (tgt := 12) dX9_breaking_7 rfl hL rfl (fun hL => ?_) (fun hL => ?_)
    · refine ev_lconst (pc := 10) (x := 0) dX9_breaking_10 rfl ?_
      exact evB_lret (pc := 11) dX9_breaking_11 rfl hL
    · refine ev_lload (pc := 12) dX9_breaking_12 rfl ?_
      refine ev_iload_n (pc := 14) (i := 3) dX9_breaking_14 rfl rfl ?_
      refine ev_i2l (pc := 15) dX9_breaking_15 ?_
      refine ev_lmul (pc := 16) dX9_breaking_16 ?_
      refine ev_ldc2 (pc := 17) (x := 100) dX9_breaking_17 w_l_Cc_438 ?_
      refine ev_ldiv (pc := 20) dX9_breaking_20 hL (fun hL => ?_)
      refine ev_bdL hL (fun v1 hL => ?_)
      refine ev_lstore (pc := 21) dX9_breaking_21 (lnl_n rfl) (Nat.le_of_ble_eq_true rfl) ?_
      refine ev_aload_n (pc := 23) (i := 0) dX9_breaking_23 rfl rfl ?_
      refine ev_iload_n (pc := 24) (i := 1) dX9_breaking_24 rfl rfl ?_
      refine ev_iload_n (pc := 25) (i := 2) dX9_breaking_25 rfl rfl ?_
      refine ev_iload_n (pc := 26) (i := 3) dX9_breaking_26 rfl rfl ?_
      refine ev_lload (pc := 27) dX9_breaking_27 rfl ?_
      refine ev_iload_n (pc := 29) (i := 2) dX9_breaking_29 rfl rfl ?_
      obtain ⟨hs2, hL⟩ := cC_un hL
      obtain ⟨r3, h4, hc5, hL⟩ := cl_un hL
      refine evB_callV_J (pc := 30) (MB_Cc_breakingWith hkf hc5) dX9_breaking_30 mt_Cc_breakingWith st_Cc_breakingWith ml_Cc_440 hs2 (by decide) ⟨_, rfl, rfl⟩ (by omega) rfl rfl (Nat.le_trans sm_z (by decide)) ?_
      refine ev_aload_n (pc := 33) (i := 0) dX9_breaking_33 rfl rfl ?_
      refine ev_iload_n (pc := 34) (i := 1) dX9_breaking_34 rfl rfl ?_
      refine ev_iload_n (pc := 35) (i := 2) dX9_breaking_35 rfl rfl ?_
      refine ev_iload_n (pc := 36) (i := 3) dX9_breaking_36 rfl rfl ?_
      refine ev_lload (pc := 37) dX9_breaking_37 rfl ?_
      refine ev_lload (pc := 39) dX9_breaking_39 rfl ?_
      refine ev_lsub (pc := 41) dX9_breaking_41 ?_
      refine ev_iconst (pc := 42) dX9_breaking_42 ?_
      obtain ⟨r6, h7, hc8, hL⟩ := cl_un hL
      refine evB_callV_J (pc := 43) (MB_Cc_breakingWith hkf hc8) dX9_breaking_43 mt_Cc_breakingWith st_Cc_breakingWith ml_Cc_440 hs2 (by decide) ⟨_, rfl, rfl⟩ (by omega) rfl rfl (Nat.le_trans (sm_2 (cat_lV _) sm_z) (by decide)) ?_
      refine ev_ladd (pc := 46) dX9_breaking_46 ?_
      exact evB_lret (pc := 47) dX9_breaking_47 rfl hL
  · refine ev_lconst (pc := 10) (x := 0) dX9_breaking_10 rfl ?_
    exact evB_lret (pc := 11) dX9_breaking_11 rfl hL
set_option maxHeartbeats 1000000 in
set_option maxRecDepth 100000 in
theorem MR_Cc_breaking {ω : Wd} {z : Nat → Prop} : ∀ (n : Nat) (s : Hp × Int × Int × Int × Int × Int) (o : Int × Hp), itr (fun k s => Cc_breaking_body k s.1 s.2.1 s.2.2.1 s.2.2.2.1 s.2.2.2.2.1 s.2.2.2.2.2) n s = some o → CtB ω N_Cc_breaking (n * 7) [aV ω s.2.1, iV s.2.2.1, iV s.2.2.2.1, iV s.2.2.2.2.1, lV s.2.2.2.2.2] z s.1 (some (lV o.1)) o.2 := by
  refine itr_rec (P := fun (n : Nat) (s : Hp × Int × Int × Int × Int × Int) (o : Int × Hp) => CtB ω N_Cc_breaking (n * 7) [aV ω s.2.1, iV s.2.2.1, iV s.2.2.2.1, iV s.2.2.2.2.1, lV s.2.2.2.2.2] z s.1 (some (lV o.1)) o.2) (fun n k hk s o h9 => ?_)
  have := MB_Cc_breaking (ω := ω) (z := z) (h := s.1) (a0 := s.2.1) (a1 := s.2.2.1) (a2 := s.2.2.2.1) (a3 := s.2.2.2.2.1) (a4 := s.2.2.2.2.2) (r := o.1) (h' := o.2) hk h9
  rwa [show n * 7 + 7 = (n + 1) * 7 from by omega] at this
set_option maxHeartbeats 1000000 in
set_option maxRecDepth 100000 in
theorem M_Cc_breaking {ω : Wd} {z : Nat → Prop} {h h' : Hp} {a0 a1 a2 a3 a4 r : Int} (hL : Cc_breaking h a0 a1 a2 a3 a4 = some (r, h')) : CtB ω N_Cc_breaking 84 [aV ω a0, iV a1, iV a2, iV a3, lV a4] z h (some (lV r)) h' := by
  unfold Cc_breaking Cc_breaking_f at hL
  exact MR_Cc_breaking RF (h, a0, a1, a2, a3, a4) (r, h') hL
set_option maxRecDepth 100000 in
theorem M_Cc_breakingWith {ω : Wd} {z : Nat → Prop} {h h' : Hp} {a0 a1 a2 a3 a4 a6 r : Int} (hL : Cc_breakingWith Cc_breaking_f h a0 a1 a2 a3 a4 a6 = some (r, h')) : CtB ω N_Cc_breakingWith 90 [aV ω a0, iV a1, iV a2, iV a3, lV a4, iV a6] z h (some (lV r)) h' := MB_Cc_breakingWith (d0 := 84) (fun s o g => MR_Cc_breaking RF s o (by unfold Cc_breaking_f at g; exact g)) hL
set_option maxHeartbeats 1000000 in
set_option maxRecDepth 100000 in
theorem KCy_wrongsAgainst_b4_body {ω : Wd} {z : Nat → Prop}  {k4 : Hp × Int × Int × Int × Int → Option (Int × Hp)} {h h' : Hp} {x0 x1 x2 x3 r : Int}  (hk4 : ∀ s o, k4 s = some o → EvB ω N_Cy_wrongsAgainst 3 (QB (some (iV o.1)) z o.2) z s.1 4 [some (aV ω s.2.1), some (iV s.2.2.1), some (iV s.2.2.2.1), some (iV s.2.2.2.2)] []) (hL : Cy_wrongsAgainst_b4_body  k4 h x0 x1 x2 x3 = some (r, h')) : EvB ω N_Cy_wrongsAgainst 3 (QB (some (iV r)) z h') z h 4 [some (aV ω x0), some (iV x1), some (iV x2), some (iV x3)] [] := by
  unfold Cy_wrongsAgainst_b4_body at hL
  refine ev_iload_n (pc := 4) (i := 3) dX0_wrongsAgainst_4 rfl rfl ?_
  refine ev_aload_n (pc := 5) (i := 0) dX0_wrongsAgainst_5 rfl rfl ?_
  obtain ⟨hs1, hL⟩ := cC_un hL
  refine ev_get (pc := 6) (c9 := 0) (k9 := 5) dX0_wrongsAgainst_6 fl_Cy_29 (by decide) hs1 gv0_5 ?_
  refine ev_icmp_ge (pc := 9) (tgt := 37) dX0_wrongsAgainst_9 rfl hL rfl (fun hL => ?_) (fun hL => ?_)
  · refine ev_iload_n (pc := 12) (i := 2) dX0_wrongsAgainst_12 rfl rfl ?_
    refine ev_aload_n (pc := 13) (i := 0) dX0_wrongsAgainst_13 rfl rfl ?_
    refine ev_iload_n (pc := 14) (i := 3) dX0_wrongsAgainst_14 rfl rfl ?_
    obtain ⟨r2, h3, hc4, hL⟩ := cl_un hL
    refine evB_callV_I (pc := 15) (M_Cy_whomOf hc4) dX0_wrongsAgainst_15 mt_Cy_whomOf st_Cy_whomOf ml_Cy_64 hs1 (by decide) ⟨_, rfl, rfl⟩ (Nat.le_of_ble_eq_true rfl) rfl rfl (Nat.le_trans (sm_1 (cat_iV _) sm_z) (by decide)) ?_
    refine ev_iload_n (pc := 18) (i := 1) dX0_wrongsAgainst_18 rfl rfl ?_
    refine ev_icmp_ne (pc := 19) (tgt := 28) dX0_wrongsAgainst_19 rfl hL rfl (fun hL => ?_) (fun hL => ?_)
    · refine ev_iconst (pc := 22) dX0_wrongsAgainst_22 ?_
      refine ev_iload_n (pc := 23) (i := 3) dX0_wrongsAgainst_23 rfl rfl ?_
      refine ev_ishl (pc := 24) dX0_wrongsAgainst_24 ?_
      refine ev_goto (pc := 25) (tgt := 29) dX0_wrongsAgainst_25 rfl ?_
      refine ev_ior (pc := 29) dX0_wrongsAgainst_29 ?_
      refine ev_bdI hL (fun v5 hL => ?_)
      refine ev_istore_n (pc := 30) (i := 2) dX0_wrongsAgainst_30 rfl (lnl_v rfl rfl) (Nat.le_of_ble_eq_true rfl) ?_
      refine ev_iinc (pc := 31) dX0_wrongsAgainst_31 rfl (lnl_v rfl rfl) (Nat.le_of_ble_eq_true rfl) ?_
      refine ev_goto (pc := 34) (tgt := 4) dX0_wrongsAgainst_34 rfl ?_
      exact ev_le (lvle_s (lvle_s (lvle_s (lvle_s lvle_z)))) (hk4 _ _ hL)
    · refine ev_iconst (pc := 28) dX0_wrongsAgainst_28 ?_
      refine ev_ior (pc := 29) dX0_wrongsAgainst_29 ?_
      refine ev_bdI hL (fun v6 hL => ?_)
      refine ev_istore_n (pc := 30) (i := 2) dX0_wrongsAgainst_30 rfl (lnl_v rfl rfl) (Nat.le_of_ble_eq_true rfl) ?_
      refine ev_iinc (pc := 31) dX0_wrongsAgainst_31 rfl (lnl_v rfl rfl) (Nat.le_of_ble_eq_true rfl) ?_
      refine ev_goto (pc := 34) (tgt := 4) dX0_wrongsAgainst_34 rfl ?_
      exact ev_le (lvle_s (lvle_s (lvle_s (lvle_s lvle_z)))) (hk4 _ _ hL)
  · refine ev_iload_n (pc := 37) (i := 2) dX0_wrongsAgainst_37 rfl rfl ?_
    exact evB_iret (pc := 38) dX0_wrongsAgainst_38 rfl hL
set_option maxHeartbeats 1000000 in
set_option maxRecDepth 100000 in
theorem KCy_wrongsAgainst_b4 {ω : Wd} {z : Nat → Prop}  {h h' : Hp} {x0 x1 x2 x3 r : Int}  (hL : Cy_wrongsAgainst_b4 h x0 x1 x2 x3 = some (r, h')) : EvB ω N_Cy_wrongsAgainst 3 (QB (some (iV r)) z h') z h 4 [some (aV ω x0), some (iV x1), some (iV x2), some (iV x3)] [] := by
  unfold Cy_wrongsAgainst_b4 at hL
  refine itr_link (P := fun (s : Hp × Int × Int × Int × Int) (o : Int × Hp) => EvB ω N_Cy_wrongsAgainst 3 (QB (some (iV o.1)) z o.2) z s.1 4 [some (aV ω s.2.1), some (iV s.2.2.1), some (iV s.2.2.2.1), some (iV s.2.2.2.2)] []) ?_ _ _ _ hL
  intro k hk s o h9
  have h10 := KCy_wrongsAgainst_b4_body (ω := ω) (z := z) (k4 := k) (h := s.1) (x0 := s.2.1) (x1 := s.2.2.1) (x2 := s.2.2.2.1) (x3 := s.2.2.2.2) (r := o.1) (h' := o.2) 
  exact h10 hk h9
set_option maxHeartbeats 1000000 in
set_option maxRecDepth 100000 in
theorem M_Cy_wrongsAgainst {ω : Wd} {z : Nat → Prop} {h h' : Hp} {a0 a1 r : Int}  (hL : Cy_wrongsAgainst h a0 a1 = some (r, h')) : CtB ω N_Cy_wrongsAgainst 3 [aV ω a0, iV a1] z h (some (iV r)) h' := by
  unfold Cy_wrongsAgainst at hL
  refine Ct_of (lv := [some (aV ω a0), some (iV a1), none, none]) (by decide) (Nat.le_trans (sl_1 (cat_aV _ _) (sl_1 (cat_iV _) sl_z)) (Nat.le_of_ble_eq_true rfl)) (la_1 (cat_aV _ _) (la_1 (cat_iV _) (la_n (la_n la_z)))) ?_
  refine ev_iconst (pc := 0) dX0_wrongsAgainst_0 ?_
  refine ev_istore_n (pc := 1) (i := 2) dX0_wrongsAgainst_1 rfl (lnl_v rfl rfl) (Nat.le_of_ble_eq_true rfl) ?_
  refine ev_iconst (pc := 2) dX0_wrongsAgainst_2 ?_
  refine ev_istore_n (pc := 3) (i := 3) dX0_wrongsAgainst_3 rfl (lnl_v rfl rfl) (Nat.le_of_ble_eq_true rfl) ?_
  exact ev_le (lvle_s (lvle_s (lvle_s (lvle_s lvle_z)))) (KCy_wrongsAgainst_b4  hL)
set_option maxHeartbeats 1000000 in
set_option maxRecDepth 100000 in
theorem M_Cc_circle {ω : Wd} {z : Nat → Prop} {h h' : Hp} {a0 a1 a2 r : Int}  (hL : Cc_circle h a0 a1 a2 = some (r, h')) : CtB ω N_Cc_circle 4 [aV ω a0, iV a1, iV a2] z h (some (iV r)) h' := by
  unfold Cc_circle at hL
  refine Ct_of (lv := [some (aV ω a0), some (iV a1), some (iV a2)]) (by decide) (Nat.le_trans (sl_1 (cat_aV _ _) (sl_1 (cat_iV _) (sl_1 (cat_iV _) sl_z))) (Nat.le_of_ble_eq_true rfl)) (la_1 (cat_aV _ _) (la_1 (cat_iV _) (la_1 (cat_iV _) la_z))) ?_
  refine ev_aload_n (pc := 0) (i := 0) dX9_circle_0 rfl rfl ?_
  refine ev_iload_n (pc := 1) (i := 1) dX9_circle_1 rfl rfl ?_
  obtain ⟨hs1, hL⟩ := cC_un hL
  obtain ⟨r2, h3, hc4, hL⟩ := cl_un hL
  refine evB_callV_I (pc := 2) (M_Cc_isPerson hc4) dX9_circle_2 mt_Cc_isPerson st_Cc_isPerson ml_Cc_132 hs1 (by decide) ⟨_, rfl, rfl⟩ (Nat.le_of_ble_eq_true rfl) rfl rfl (Nat.le_trans sm_z (by decide)) ?_
  refine ev_if_ne (pc := 5) (tgt := 10) dX9_circle_5 rfl hL rfl (fun hL => ?_) (fun hL => ?_)
  · refine ev_iconst (pc := 8) dX9_circle_8 ?_
    exact evB_iret (pc := 9) dX9_circle_9 rfl hL
  · refine ev_iload_n (pc := 10) (i := 2) dX9_circle_10 rfl rfl ?_
    rcases ite_un hL with ⟨hx, hL⟩ | ⟨hx9, hL⟩
    · refine evB_tswIn (pc := 11) (tgt := 36) dX9_circle_11 hx (by decide) (by decide) rfl rfl ?_
      refine ev_aload_n (pc := 36) (i := 0) dX9_circle_36 rfl rfl ?_
      refine ev_get (pc := 37) (c9 := 9) (k9 := 1) dX9_circle_37 fl_Cc_19 (by decide) hs1 gv9_1 ?_
      refine ev_iload_n (pc := 40) (i := 1) dX9_circle_40 rfl rfl ?_
      obtain ⟨hs5, hL⟩ := cC_un hL
      obtain ⟨r6, h7, hc8, hL⟩ := cl_un hL
      refine evB_callV_I (pc := 41) (M_Cy_wrongsBy hc8) dX9_circle_41 mt_Cy_wrongsBy st_Cy_wrongsBy ml_Cc_374 hs5 (by decide) ⟨_, rfl, rfl⟩ (Nat.le_of_ble_eq_true rfl) rfl rfl (Nat.le_trans sm_z (by decide)) ?_
      exact evB_iret (pc := 44) dX9_circle_44 rfl hL
    · rcases ite_un hL with ⟨hx, hL⟩ | ⟨hx14, hL⟩
      · refine evB_tswIn (pc := 11) (tgt := 45) dX9_circle_11 hx (by decide) (by decide) rfl rfl ?_
        refine ev_aload_n (pc := 45) (i := 0) dX9_circle_45 rfl rfl ?_
        refine ev_get (pc := 46) (c9 := 9) (k9 := 1) dX9_circle_46 fl_Cc_19 (by decide) hs1 gv9_1 ?_
        refine ev_iload_n (pc := 49) (i := 1) dX9_circle_49 rfl rfl ?_
        obtain ⟨hs10, hL⟩ := cC_un hL
        obtain ⟨r11, h12, hc13, hL⟩ := cl_un hL
        refine evB_callV_I (pc := 50) (M_Cy_wrongsAgainst hc13) dX9_circle_50 mt_Cy_wrongsAgainst st_Cy_wrongsAgainst ml_Cc_377 hs10 (by decide) ⟨_, rfl, rfl⟩ (Nat.le_of_ble_eq_true rfl) rfl rfl (Nat.le_trans sm_z (by decide)) ?_
        exact evB_iret (pc := 53) dX9_circle_53 rfl hL
      · rcases ite_un hL with ⟨hx, hL⟩ | ⟨hx18, hL⟩
        · refine evB_tswIn (pc := 11) (tgt := 54) dX9_circle_11 hx (by decide) (by decide) rfl rfl ?_
          refine ev_aload_n (pc := 54) (i := 0) dX9_circle_54 rfl rfl ?_
          refine ev_iload_n (pc := 55) (i := 1) dX9_circle_55 rfl rfl ?_
          obtain ⟨r15, h16, hc17, hL⟩ := cl_un hL
          refine evB_callV_I (pc := 56) (M_Cc_circleOf hc17) dX9_circle_56 mt_Cc_circleOf st_Cc_circleOf ml_Cc_380 hs1 (by decide) ⟨_, rfl, rfl⟩ (Nat.le_of_ble_eq_true rfl) rfl rfl (Nat.le_trans sm_z (by decide)) ?_
          exact evB_iret (pc := 59) dX9_circle_59 rfl hL
        · refine evB_tswOut (pc := 11) (tgt := 60) dX9_circle_11 (by omega) rfl ?_
          refine ev_iconst (pc := 60) dX9_circle_60 ?_
          exact evB_iret (pc := 61) dX9_circle_61 rfl hL
set_option maxHeartbeats 1000000 in
set_option maxRecDepth 100000 in
theorem M_Lg_lengthAt {ω : Wd} {z : Nat → Prop} {h h' : Hp} {a0 r : Int}  (hL : Lg_lengthAt h a0 = some (r, h')) : CtB ω N_Lg_lengthAt 1 [aV ω a0] z h (some (iV r)) h' := by
  unfold Lg_lengthAt at hL
  refine Ct_of (lv := [some (aV ω a0)]) (by decide) (Nat.le_trans (sl_1 (cat_aV _ _) sl_z) (Nat.le_of_ble_eq_true rfl)) (la_1 (cat_aV _ _) la_z) ?_
  refine ev_bipush (pc := 0) dX3_lengthAt_0 (by decide) ?_
  refine ev_aload_n (pc := 2) (i := 0) dX3_lengthAt_2 rfl rfl ?_
  obtain ⟨hs1, hL⟩ := cC_un hL
  refine ev_get (pc := 3) (c9 := 7) (k9 := 8) dX3_lengthAt_3 fl_Lg_18 (by decide) hs1 gv7_8 ?_
  refine ev_min (pc := 6) dX3_lengthAt_6 wm_Lg_24 w_s_min w_i_Math w_k_min (Nat.le_trans sm_z (by decide)) (Nat.le_of_ble_eq_true rfl) (Nat.le_refl _) (Nat.le_refl _) ?_
  exact evB_iret (pc := 9) dX3_lengthAt_9 rfl hL
set_option maxHeartbeats 1000000 in
set_option maxRecDepth 100000 in
theorem M_Cc_count {ω : Wd} {z : Nat → Prop} {h h' : Hp} {a0 a1 r : Int}  (hL : Cc_count h a0 a1 = some (r, h')) : CtB ω N_Cc_count 3 [aV ω a0, iV a1] z h (some (iV r)) h' := by
  unfold Cc_count at hL
  refine Ct_of (lv := [some (aV ω a0), some (iV a1)]) (by decide) (Nat.le_trans (sl_1 (cat_aV _ _) (sl_1 (cat_iV _) sl_z)) (Nat.le_of_ble_eq_true rfl)) (la_1 (cat_aV _ _) (la_1 (cat_iV _) la_z)) ?_
  refine ev_iload_n (pc := 0) (i := 1) dX9_count_0 rfl rfl ?_
  rcases ite_un hL with ⟨hx, hL⟩ | ⟨hx3, hL⟩
  · refine evB_tswIn (pc := 1) (tgt := 68) dX9_count_1 hx (by decide) (by decide) rfl rfl ?_
    refine ev_aload_n (pc := 68) (i := 0) dX9_count_68 rfl rfl ?_
    obtain ⟨hs1, hL⟩ := cC_un hL
    refine ev_get (pc := 69) (c9 := 9) (k9 := 1) dX9_count_69 fl_Cc_19 (by decide) hs1 gv9_1 ?_
    obtain ⟨hs2, hL⟩ := cC_un hL
    refine ev_get (pc := 72) (c9 := 0) (k9 := 4) dX9_count_72 fl_Cc_391 (by decide) hs2 gv0_4 ?_
    exact evB_iret (pc := 75) dX9_count_75 rfl hL
  · rcases ite_un hL with ⟨hx, hL⟩ | ⟨hx6, hL⟩
    · refine evB_tswIn (pc := 1) (tgt := 76) dX9_count_1 hx (by decide) (by decide) rfl rfl ?_
      refine ev_aload_n (pc := 76) (i := 0) dX9_count_76 rfl rfl ?_
      obtain ⟨hs4, hL⟩ := cC_un hL
      refine ev_get (pc := 77) (c9 := 9) (k9 := 1) dX9_count_77 fl_Cc_19 (by decide) hs4 gv9_1 ?_
      obtain ⟨hs5, hL⟩ := cC_un hL
      refine ev_get (pc := 80) (c9 := 0) (k9 := 5) dX9_count_80 fl_Cc_359 (by decide) hs5 gv0_5 ?_
      exact evB_iret (pc := 83) dX9_count_83 rfl hL
    · rcases ite_un hL with ⟨hx, hL⟩ | ⟨hx8, hL⟩
      · refine evB_tswIn (pc := 1) (tgt := 84) dX9_count_1 hx (by decide) (by decide) rfl rfl ?_
        refine ev_aload_n (pc := 84) (i := 0) dX9_count_84 rfl rfl ?_
        obtain ⟨hs7, hL⟩ := cC_un hL
        refine ev_get (pc := 85) (c9 := 9) (k9 := 5) dX9_count_85 fl_Cc_38 (by decide) hs7 gv9_5 ?_
        exact evB_iret (pc := 88) dX9_count_88 rfl hL
      · rcases ite_un hL with ⟨hx, hL⟩ | ⟨hx10, hL⟩
        · refine evB_tswIn (pc := 1) (tgt := 89) dX9_count_1 hx (by decide) (by decide) rfl rfl ?_
          refine ev_aload_n (pc := 89) (i := 0) dX9_count_89 rfl rfl ?_
          obtain ⟨hs9, hL⟩ := cC_un hL
          refine ev_get (pc := 90) (c9 := 9) (k9 := 7) dX9_count_90 fl_Cc_45 (by decide) hs9 gv9_7 ?_
          exact evB_iret (pc := 93) dX9_count_93 rfl hL
        · rcases ite_un hL with ⟨hx, hL⟩ | ⟨hx13, hL⟩
          · refine evB_tswIn (pc := 1) (tgt := 94) dX9_count_1 hx (by decide) (by decide) rfl rfl ?_
            refine ev_aload_n (pc := 94) (i := 0) dX9_count_94 rfl rfl ?_
            obtain ⟨hs11, hL⟩ := cC_un hL
            refine ev_get (pc := 95) (c9 := 9) (k9 := 0) dX9_count_95 fl_Cc_10 (by decide) hs11 (gv9_0 hs11) ?_
            obtain ⟨hs12, hL⟩ := cC_un hL
            refine ev_get (pc := 98) (c9 := 8) (k9 := 1) dX9_count_98 fl_Cc_114 (by decide) hs12 gv8_1 ?_
            exact evB_iret (pc := 101) dX9_count_101 rfl hL
          · rcases ite_un hL with ⟨hx, hL⟩ | ⟨hx15, hL⟩
            · refine evB_tswIn (pc := 1) (tgt := 102) dX9_count_1 hx (by decide) (by decide) rfl rfl ?_
              refine ev_aload_n (pc := 102) (i := 0) dX9_count_102 rfl rfl ?_
              obtain ⟨hs14, hL⟩ := cC_un hL
              refine ev_get (pc := 103) (c9 := 9) (k9 := 6) dX9_count_103 fl_Cc_42 (by decide) hs14 gv9_6 ?_
              exact evB_iret (pc := 106) dX9_count_106 rfl hL
            · rcases ite_un hL with ⟨hx, hL⟩ | ⟨hx18, hL⟩
              · refine evB_tswIn (pc := 1) (tgt := 107) dX9_count_1 hx (by decide) (by decide) rfl rfl ?_
                refine ev_aload_n (pc := 107) (i := 0) dX9_count_107 rfl rfl ?_
                obtain ⟨hs16, hL⟩ := cC_un hL
                refine ev_get (pc := 108) (c9 := 9) (k9 := 10) dX9_count_108 fl_Cc_58 (by decide) hs16 (gv9_10 hs16) ?_
                obtain ⟨hs17, hL⟩ := cC_un hL
                refine ev_get (pc := 111) (c9 := 7) (k9 := 8) dX9_count_111 fl_Cc_227 (by decide) hs17 gv7_8 ?_
                exact evB_iret (pc := 114) dX9_count_114 rfl hL
              · rcases ite_un hL with ⟨hx, hL⟩ | ⟨hx21, hL⟩
                · refine evB_tswIn (pc := 1) (tgt := 115) dX9_count_1 hx (by decide) (by decide) rfl rfl ?_
                  refine ev_aload_n (pc := 115) (i := 0) dX9_count_115 rfl rfl ?_
                  obtain ⟨hs19, hL⟩ := cC_un hL
                  refine ev_get (pc := 116) (c9 := 9) (k9 := 10) dX9_count_116 fl_Cc_58 (by decide) hs19 (gv9_10 hs19) ?_
                  obtain ⟨hs20, hL⟩ := cC_un hL
                  refine ev_get (pc := 119) (c9 := 7) (k9 := 6) dX9_count_119 fl_Cc_209 (by decide) hs20 gv7_6 ?_
                  exact evB_iret (pc := 122) dX9_count_122 rfl hL
                · rcases ite_un hL with ⟨hx, hL⟩ | ⟨hx30, hL⟩
                  · refine evB_tswIn (pc := 1) (tgt := 123) dX9_count_1 hx (by decide) (by decide) rfl rfl ?_
                    refine ev_aload_n (pc := 123) (i := 0) dX9_count_123 rfl rfl ?_
                    obtain ⟨hs22, hL⟩ := cC_un hL
                    obtain ⟨r23, h24, hc25, hL⟩ := cl_un hL
                    refine evB_callV_I (pc := 124) (M_Cc_isTold hc25) dX9_count_124 mt_Cc_isTold st_Cc_isTold ml_Cc_223 hs22 (by decide) ⟨_, rfl, rfl⟩ (Nat.le_of_ble_eq_true rfl) rfl rfl (Nat.le_trans sm_z (by decide)) ?_
                    refine ev_if_eq (pc := 127) (tgt := 140) dX9_count_127 rfl hL rfl (fun hL => ?_) (fun hL => ?_)
                    · refine ev_iconst (pc := 140) dX9_count_140 ?_
                      exact evB_iret (pc := 141) dX9_count_141 rfl hL
                    · refine ev_aload_n (pc := 130) (i := 0) dX9_count_130 rfl rfl ?_
                      refine ev_get (pc := 131) (c9 := 9) (k9 := 1) dX9_count_131 fl_Cc_19 (by decide) hs22 gv9_1 ?_
                      obtain ⟨hs26, hL⟩ := cC_un hL
                      obtain ⟨r27, h28, hc29, hL⟩ := cl_un hL
                      refine evB_callV_I (pc := 134) (M_Cy_mostWorth hc29) dX9_count_134 mt_Cy_mostWorth st_Cy_mostWorth ml_Cc_392 hs26 (by decide) ⟨_, rfl, rfl⟩ (Nat.le_of_ble_eq_true rfl) rfl rfl (Nat.le_trans sm_z (by decide)) ?_
                      refine ev_goto (pc := 137) (tgt := 141) dX9_count_137 rfl ?_
                      exact evB_iret (pc := 141) dX9_count_141 rfl hL
                  · rcases ite_un hL with ⟨hx, hL⟩ | ⟨hx32, hL⟩
                    · refine evB_tswIn (pc := 1) (tgt := 142) dX9_count_1 hx (by decide) (by decide) rfl rfl ?_
                      refine ev_aload_n (pc := 142) (i := 0) dX9_count_142 rfl rfl ?_
                      obtain ⟨hs31, hL⟩ := cC_un hL
                      refine ev_get (pc := 143) (c9 := 9) (k9 := 8) dX9_count_143 fl_Cc_48 (by decide) hs31 gv9_8 ?_
                      exact evB_iret (pc := 146) dX9_count_146 rfl hL
                    · rcases ite_un hL with ⟨hx, hL⟩ | ⟨hx35, hL⟩
                      · refine evB_tswIn (pc := 1) (tgt := 147) dX9_count_1 hx (by decide) (by decide) rfl rfl ?_
                        refine ev_aload_n (pc := 147) (i := 0) dX9_count_147 rfl rfl ?_
                        obtain ⟨hs33, hL⟩ := cC_un hL
                        refine ev_get (pc := 148) (c9 := 9) (k9 := 16) dX9_count_148 fl_Cc_89 (by decide) hs33 (gv9_16 hs33) ?_
                        obtain ⟨hs34, hL⟩ := cC_un hL
                        refine ev_get (pc := 151) (c9 := 1) (k9 := 4) dX9_count_151 fl_Cc_323 (by decide) hs34 gv1_4 ?_
                        exact evB_iret (pc := 154) dX9_count_154 rfl hL
                      · rcases ite_un hL with ⟨hx, hL⟩ | ⟨hx40, hL⟩
                        · refine evB_tswIn (pc := 1) (tgt := 155) dX9_count_1 hx (by decide) (by decide) rfl rfl ?_
                          refine ev_aload_n (pc := 155) (i := 0) dX9_count_155 rfl rfl ?_
                          obtain ⟨hs36, hL⟩ := cC_un hL
                          refine ev_get (pc := 156) (c9 := 9) (k9 := 10) dX9_count_156 fl_Cc_58 (by decide) hs36 (gv9_10 hs36) ?_
                          obtain ⟨r37, h38, hc39, hL⟩ := cl_un hL
                          refine evB_callS_I (pc := 159) (M_Lg_lengthAt hc39) dX9_count_159 mt_Lg_lengthAt st_Lg_lengthAt ml_Cc_240 (Nat.le_of_ble_eq_true rfl) rfl rfl (Nat.le_trans sm_z (by decide)) ?_
                          exact evB_iret (pc := 162) dX9_count_162 rfl hL
                        · rcases ite_un hL with ⟨hx, hL⟩ | ⟨hx43, hL⟩
                          · refine evB_tswIn (pc := 1) (tgt := 163) dX9_count_1 hx (by decide) (by decide) rfl rfl ?_
                            refine ev_aload_n (pc := 163) (i := 0) dX9_count_163 rfl rfl ?_
                            obtain ⟨hs41, hL⟩ := cC_un hL
                            refine ev_get (pc := 164) (c9 := 9) (k9 := 14) dX9_count_164 fl_Cc_75 (by decide) hs41 (gv9_14 hs41) ?_
                            obtain ⟨hs42, hL⟩ := cC_un hL
                            refine ev_get (pc := 167) (c9 := 4) (k9 := 2) dX9_count_167 fl_Cc_395 (by decide) hs42 gv4_2 ?_
                            exact evB_iret (pc := 170) dX9_count_170 rfl hL
                          · refine evB_tswOut (pc := 1) (tgt := 171) dX9_count_1 (by omega) rfl ?_
                            refine ev_ldc (pc := 171) (x := (-1000000)) dX9_count_171 w_c_Cc_249 ?_
                            exact evB_iret (pc := 173) dX9_count_173 rfl hL
set_option maxHeartbeats 1000000 in
set_option maxRecDepth 100000 in
theorem KCc_crime_b25_body {ω : Wd} {z : Nat → Prop}  {k25 : Hp × Int × Int × Int × Int × Int → Option (Int × Hp)} {h h' : Hp} {x0 x1 x2 x3 x4 r : Int}  (hk25 : ∀ s o, k25 s = some o → EvB ω N_Cc_crime 5 (QB (some (iV o.1)) z o.2) z s.1 25 [some (aV ω s.2.1), some (iV s.2.2.1), some (iV s.2.2.2.1), some (iV s.2.2.2.2.1), some (iV s.2.2.2.2.2)] []) (hL : Cc_crime_b25_body  k25 h x0 x1 x2 x3 x4 = some (r, h')) : EvB ω N_Cc_crime 5 (QB (some (iV r)) z h') z h 25 [some (aV ω x0), some (iV x1), some (iV x2), some (iV x3), some (iV x4)] [] := by
  unfold Cc_crime_b25_body at hL
  refine ev_iload (pc := 25) dX9_crime_25 rfl ?_
  refine ev_bipush (pc := 27) dX9_crime_27 (by decide) ?_
  refine ev_icmp_gt (pc := 29) (tgt := 57) dX9_crime_29 rfl hL rfl (fun hL => ?_) (fun hL => ?_)
  · refine ev_iconst (pc := 57) dX9_crime_57 ?_
    exact evB_iret (pc := 58) dX9_crime_58 rfl hL
  · refine ev_aload_n (pc := 32) (i := 0) dX9_crime_32 rfl rfl ?_
    refine ev_aload_n (pc := 33) (i := 0) dX9_crime_33 rfl rfl ?_
    obtain ⟨hs5, hL⟩ := cC_un hL
    refine ev_get (pc := 34) (c9 := 9) (k9 := 10) dX9_crime_34 fl_Cc_58 (by decide) hs5 (gv9_10 hs5) ?_
    refine ev_iload_n (pc := 37) (i := 1) dX9_crime_37 rfl rfl ?_
    refine ev_iload_n (pc := 38) (i := 2) dX9_crime_38 rfl rfl ?_
    refine ev_iload (pc := 39) dX9_crime_39 rfl ?_
    obtain ⟨r6, h7, hc8, hL⟩ := cl_un hL
    refine evB_callV_I (pc := 41) (M_Cc_worthBy hc8) dX9_crime_41 mt_Cc_worthBy st_Cc_worthBy ml_Cc_169 hs5 (by decide) ⟨_, rfl, rfl⟩ (Nat.le_of_ble_eq_true rfl) rfl rfl (Nat.le_trans sm_z (by decide)) ?_
    refine ev_iload_n (pc := 44) (i := 3) dX9_crime_44 rfl rfl ?_
    refine ev_icmp_lt (pc := 45) (tgt := 51) dX9_crime_45 rfl hL rfl (fun hL => ?_) (fun hL => ?_)
    · refine ev_iinc (pc := 51) dX9_crime_51 rfl (lnl_v rfl rfl) (Nat.le_of_ble_eq_true rfl) ?_
      refine ev_goto (pc := 54) (tgt := 25) dX9_crime_54 rfl ?_
      exact ev_le (lvle_s (lvle_s (lvle_s (lvle_s (lvle_s lvle_z))))) (hk25 _ _ hL)
    · refine ev_iload (pc := 48) dX9_crime_48 rfl ?_
      exact evB_iret (pc := 50) dX9_crime_50 rfl hL
set_option maxHeartbeats 1000000 in
set_option maxRecDepth 100000 in
theorem KCc_crime_b25 {ω : Wd} {z : Nat → Prop}  {h h' : Hp} {x0 x1 x2 x3 x4 r : Int}  (hL : Cc_crime_b25 h x0 x1 x2 x3 x4 = some (r, h')) : EvB ω N_Cc_crime 5 (QB (some (iV r)) z h') z h 25 [some (aV ω x0), some (iV x1), some (iV x2), some (iV x3), some (iV x4)] [] := by
  unfold Cc_crime_b25 at hL
  refine itr_link (P := fun (s : Hp × Int × Int × Int × Int × Int) (o : Int × Hp) => EvB ω N_Cc_crime 5 (QB (some (iV o.1)) z o.2) z s.1 25 [some (aV ω s.2.1), some (iV s.2.2.1), some (iV s.2.2.2.1), some (iV s.2.2.2.2.1), some (iV s.2.2.2.2.2)] []) ?_ _ _ _ hL
  intro k hk s o h9
  have h10 := KCc_crime_b25_body (ω := ω) (z := z) (k25 := k) (h := s.1) (x0 := s.2.1) (x1 := s.2.2.1) (x2 := s.2.2.2.1) (x3 := s.2.2.2.2.1) (x4 := s.2.2.2.2.2) (r := o.1) (h' := o.2) 
  exact h10 hk h9
set_option maxHeartbeats 1000000 in
set_option maxRecDepth 100000 in
theorem M_Cc_crime {ω : Wd} {z : Nat → Prop} {h h' : Hp} {a0 a1 a2 a3 r : Int}  (hL : Cc_crime h a0 a1 a2 a3 = some (r, h')) : CtB ω N_Cc_crime 5 [aV ω a0, iV a1, iV a2, iV a3] z h (some (iV r)) h' := by
  unfold Cc_crime at hL
  refine Ct_of (lv := [some (aV ω a0), some (iV a1), some (iV a2), some (iV a3), none]) (by decide) (Nat.le_trans (sl_1 (cat_aV _ _) (sl_1 (cat_iV _) (sl_1 (cat_iV _) (sl_1 (cat_iV _) sl_z)))) (Nat.le_of_ble_eq_true rfl)) (la_1 (cat_aV _ _) (la_1 (cat_iV _) (la_1 (cat_iV _) (la_1 (cat_iV _) (la_n la_z))))) ?_
  refine ev_aload_n (pc := 0) (i := 0) dX9_crime_0 rfl rfl ?_
  refine ev_iload_n (pc := 1) (i := 1) dX9_crime_1 rfl rfl ?_
  refine ev_iload_n (pc := 2) (i := 2) dX9_crime_2 rfl rfl ?_
  obtain ⟨hs1, hL⟩ := cC_un hL
  obtain ⟨r2, h3, hc4, hL⟩ := cl_un hL
  refine evB_callV_I (pc := 3) (M_Cc_areTwo hc4) dX9_crime_3 mt_Cc_areTwo st_Cc_areTwo ml_Cc_205 hs1 (by decide) ⟨_, rfl, rfl⟩ (Nat.le_of_ble_eq_true rfl) rfl rfl (Nat.le_trans sm_z (by decide)) ?_
  refine ev_if_eq (pc := 6) (tgt := 20) dX9_crime_6 rfl hL rfl (fun hL => ?_) (fun hL => ?_)
  · refine ev_iconst (pc := 20) dX9_crime_20 ?_
    exact evB_iret (pc := 21) dX9_crime_21 rfl hL
  · refine ev_iload_n (pc := 9) (i := 3) dX9_crime_9 rfl rfl ?_
    refine ev_iconst (pc := 10) dX9_crime_10 ?_
    refine ev_icmp_lt (pc := 11) (tgt := 20) dX9_crime_11 rfl hL rfl (fun hL => ?_) (fun hL => ?_)
    · refine ev_iconst (pc := 20) dX9_crime_20 ?_
      exact evB_iret (pc := 21) dX9_crime_21 rfl hL
    · refine ev_iload_n (pc := 14) (i := 3) dX9_crime_14 rfl rfl ?_
      refine ev_bipush (pc := 15) dX9_crime_15 (by decide) ?_
      refine ev_icmp_le (pc := 17) (tgt := 22) dX9_crime_17 rfl hL rfl (fun hL => ?_) (fun hL => ?_)
      · refine ev_iconst (pc := 20) dX9_crime_20 ?_
        exact evB_iret (pc := 21) dX9_crime_21 rfl hL
      · refine ev_iconst (pc := 22) dX9_crime_22 ?_
        refine ev_istore (pc := 23) dX9_crime_23 (lnl_v rfl rfl) (Nat.le_of_ble_eq_true rfl) ?_
        exact ev_le (lvle_s (lvle_s (lvle_s (lvle_s (lvle_s lvle_z))))) (KCc_crime_b25  hL)
set_option maxHeartbeats 1000000 in
set_option maxRecDepth 100000 in
theorem M_Cc_draw {ω : Wd} {z : Nat → Prop} {h h' : Hp} {a0 a1 r : Int}  (hL : Cc_draw h a0 a1 = some (r, h')) : CtB ω N_Cc_draw 1 [aV ω a0, iV a1] z h (some (iV r)) h' := by
  unfold Cc_draw at hL
  refine Ct_of (lv := [some (aV ω a0), some (iV a1)]) (by decide) (Nat.le_trans (sl_1 (cat_aV _ _) (sl_1 (cat_iV _) sl_z)) (Nat.le_of_ble_eq_true rfl)) (la_1 (cat_aV _ _) (la_1 (cat_iV _) la_z)) ?_
  refine ev_aload_n (pc := 0) (i := 0) dX9_draw_0 rfl rfl ?_
  refine ev_aload_n (pc := 1) (i := 0) dX9_draw_1 rfl rfl ?_
  obtain ⟨hs1, hL⟩ := cC_un hL
  refine ev_get (pc := 2) (c9 := 9) (k9 := 19) dX9_draw_2 fl_Cc_104 (by decide) hs1 gv9_19 ?_
  refine ev_ldc2 (pc := 5) (x := 6364136223846793005) dX9_draw_5 w_l_Cc_425 ?_
  refine ev_lmul (pc := 8) dX9_draw_8 ?_
  refine ev_ldc2 (pc := 9) (x := 1442695040888963407) dX9_draw_9 w_l_Cc_427 ?_
  refine ev_ladd (pc := 12) dX9_draw_12 ?_
  refine evB_putL (pc := 13) (c9 := 9) (k9 := 19) (kI := 19) dX9_draw_13 fl_Cc_104 hs1 (by decide) (fun q hq => by cases hq; rfl) rfl rfl rfl ?_
  refine ev_puG hL (fun h2 hL => ?_)
  refine ev_iload_n (pc := 16) (i := 1) dX9_draw_16 rfl rfl ?_
  refine ev_if_le (pc := 17) (tgt := 34) dX9_draw_17 rfl hL rfl (fun hL => ?_) (fun hL => ?_)
  · refine ev_aload_n (pc := 20) (i := 0) dX9_draw_20 rfl rfl ?_
    refine ev_get (pc := 21) (c9 := 9) (k9 := 19) dX9_draw_21 fl_Cc_104 (by decide) hs1 gv9_19 ?_
    refine ev_bipush (pc := 24) dX9_draw_24 (by decide) ?_
    refine ev_lushr (pc := 26) dX9_draw_26 ?_
    refine ev_iload_n (pc := 27) (i := 1) dX9_draw_27 rfl rfl ?_
    refine ev_i2l (pc := 28) dX9_draw_28 ?_
    refine ev_lrem (pc := 29) dX9_draw_29 hL (fun hL => ?_)
    refine ev_l2i (pc := 30) dX9_draw_30 ?_
    refine ev_goto (pc := 31) (tgt := 35) dX9_draw_31 rfl ?_
    exact evB_iret (pc := 35) dX9_draw_35 rfl hL
  · refine ev_iconst (pc := 34) dX9_draw_34 ?_
    exact evB_iret (pc := 35) dX9_draw_35 rfl hL
set_option maxHeartbeats 1000000 in
set_option maxRecDepth 100000 in
theorem M_Cc_end {ω : Wd} {z : Nat → Prop} {h h' : Hp} {a0 a1 r : Int}  (hL : Cc_end h a0 a1 = some (r, h')) : CtB ω N_Cc_end 1 [aV ω a0, iV a1] z h (some (iV r)) h' := by
  unfold Cc_end at hL
  refine Ct_of (lv := [some (aV ω a0), some (iV a1)]) (by decide) (Nat.le_trans (sl_1 (cat_aV _ _) (sl_1 (cat_iV _) sl_z)) (Nat.le_of_ble_eq_true rfl)) (la_1 (cat_aV _ _) (la_1 (cat_iV _) la_z)) ?_
  refine ev_iload_n (pc := 0) (i := 1) dX9_end_0 rfl rfl ?_
  refine ev_if_lt (pc := 1) (tgt := 15) dX9_end_1 rfl hL rfl (fun hL => ?_) (fun hL => ?_)
  · refine ev_iconst (pc := 15) dX9_end_15 ?_
    exact evB_zret (pc := 16) dX9_end_16 rfl rfl hL
  · refine ev_iload_n (pc := 4) (i := 1) dX9_end_4 rfl rfl ?_
    refine ev_aload_n (pc := 5) (i := 0) dX9_end_5 rfl rfl ?_
    obtain ⟨hs1, hL⟩ := cC_un hL
    refine ev_get (pc := 6) (c9 := 9) (k9 := 0) dX9_end_6 fl_Cc_10 (by decide) hs1 (gv9_0 hs1) ?_
    obtain ⟨hs2, hL⟩ := cC_un hL
    refine ev_get (pc := 9) (c9 := 8) (k9 := 1) dX9_end_9 fl_Cc_114 (by decide) hs2 gv8_1 ?_
    refine ev_icmp_le (pc := 12) (tgt := 17) dX9_end_12 rfl hL rfl (fun hL => ?_) (fun hL => ?_)
    · refine ev_iconst (pc := 15) dX9_end_15 ?_
      exact evB_zret (pc := 16) dX9_end_16 rfl rfl hL
    · refine ev_aload_n (pc := 17) (i := 0) dX9_end_17 rfl rfl ?_
      refine ev_get (pc := 18) (c9 := 9) (k9 := 0) dX9_end_18 fl_Cc_10 (by decide) hs1 (gv9_0 hs1) ?_
      refine ev_iload_n (pc := 21) (i := 1) dX9_end_21 rfl rfl ?_
      refine evB_putI (pc := 22) (c9 := 8) (k9 := 1) (kI := 1) dX9_end_22 fl_Cc_114 hs2 (by decide) (fun q hq => by cases hq; rfl) rfl rfl rfl ?_
      refine ev_puG hL (fun h3 hL => ?_)
      refine ev_iconst (pc := 25) dX9_end_25 ?_
      exact evB_zret (pc := 26) dX9_end_26 rfl rfl hL
set_option maxHeartbeats 1000000 in
set_option maxRecDepth 100000 in
theorem M_Cc_eveningIn {ω : Wd} {z : Nat → Prop} {h h' : Hp} {a0 a1 r : Int}  (hL : Cc_eveningIn h a0 a1 = some (r, h')) : CtB ω N_Cc_eveningIn 6 [aV ω a0, aV ω a1] z h (some (iV r)) h' := by
  unfold Cc_eveningIn at hL
  refine Ct_of (lv := [some (aV ω a0), some (aV ω a1)]) (by decide) (Nat.le_trans (sl_1 (cat_aV _ _) (sl_1 (cat_aV _ _) sl_z)) (Nat.le_of_ble_eq_true rfl)) (la_1 (cat_aV _ _) (la_1 (cat_aV _ _) la_z)) ?_
  refine ev_aload_n (pc := 0) (i := 0) dX9_eveningIn_0 rfl rfl ?_
  obtain ⟨hs1, hL⟩ := cC_un hL
  obtain ⟨r2, h3, hc4, hL⟩ := cl_un hL
  refine evB_callV_I (pc := 1) (M_Cc_isTold hc4) dX9_eveningIn_1 mt_Cc_isTold st_Cc_isTold ml_Cc_223 hs1 (by decide) ⟨_, rfl, rfl⟩ (Nat.le_of_ble_eq_true rfl) rfl rfl (Nat.le_trans sm_z (by decide)) ?_
  refine ev_if_eq (pc := 4) (tgt := 17) dX9_eveningIn_4 rfl hL rfl (fun hL => ?_) (fun hL => ?_)
  · refine ev_iconst (pc := 17) dX9_eveningIn_17 ?_
    exact evB_zret (pc := 18) dX9_eveningIn_18 rfl rfl hL
  · refine ev_aload_n (pc := 7) (i := 1) dX9_eveningIn_7 rfl rfl ?_
    obtain ⟨hs5, hL⟩ := cC_un hL
    refine ev_get (pc := 8) (c9 := 7) (k9 := 8) dX9_eveningIn_8 fl_Cc_227 (by decide) hs5 gv7_8 ?_
    refine ev_sipush (pc := 11) dX9_eveningIn_11 (by decide) ?_
    refine ev_icmp_lt (pc := 14) (tgt := 19) dX9_eveningIn_14 rfl hL rfl (fun hL => ?_) (fun hL => ?_)
    · refine ev_aload_n (pc := 19) (i := 1) dX9_eveningIn_19 rfl rfl ?_
      refine ev_iconst (pc := 20) dX9_eveningIn_20 ?_
      obtain ⟨r6, h7, hc8, hL⟩ := cl_un hL
      refine evB_callV_V (pc := 21) (M_St_pass hc8) dX9_eveningIn_21 mt_St_pass st_St_pass ml_Cc_233 hs5 (by decide) ⟨_, rfl, rfl⟩ (Nat.le_of_ble_eq_true rfl) rfl rfl (Nat.le_trans sm_z (by decide)) ?_
      refine ev_iconst (pc := 24) dX9_eveningIn_24 ?_
      exact evB_zret (pc := 25) dX9_eveningIn_25 rfl rfl hL
    · refine ev_iconst (pc := 17) dX9_eveningIn_17 ?_
      exact evB_zret (pc := 18) dX9_eveningIn_18 rfl rfl hL
set_option maxHeartbeats 1000000 in
set_option maxRecDepth 100000 in
theorem M_Lg_write {ω : Wd} {z : Nat → Prop} {h h' : Hp} {a0 a1 r : Int}  (hL : Lg_write h a0 a1 = some (r, h')) : CtB ω N_Lg_write 5 [aV ω a0, aV ω a1] z h none h' := by
  unfold Lg_write at hL
  refine Ct_of (lv := [some (aV ω a0), some (aV ω a1)]) (by decide) (Nat.le_trans (sl_1 (cat_aV _ _) (sl_1 (cat_aV _ _) sl_z)) (Nat.le_of_ble_eq_true rfl)) (la_1 (cat_aV _ _) (la_1 (cat_aV _ _) la_z)) ?_
  refine ev_aload_n (pc := 0) (i := 0) dX3_write_0 rfl rfl ?_
  obtain ⟨hs1, hL⟩ := cC_un hL
  refine ev_get (pc := 1) (c9 := 3) (k9 := 0) dX3_write_1 fl_Lg_9 (by decide) hs1 (gv3_0 hs1) ?_
  refine ev_aload_n (pc := 4) (i := 1) dX3_write_4 rfl rfl ?_
  obtain ⟨hs2, hL⟩ := cC_un hL
  refine ev_get (pc := 5) (c9 := 7) (k9 := 8) dX3_write_5 fl_Lg_18 (by decide) hs2 gv7_8 ?_
  refine ev_aload_n (pc := 8) (i := 1) dX3_write_8 rfl rfl ?_
  obtain ⟨r3, h4, hc5, hL⟩ := cl_un hL
  refine evB_callV_I (pc := 9) (M_St_allDebt hc5) dX3_write_9 mt_St_allDebt st_St_allDebt ml_Lg_30 hs2 (by decide) ⟨_, rfl, rfl⟩ (Nat.le_of_ble_eq_true rfl) rfl rfl (Nat.le_trans (sm_1 (cat_iV _) (sm_1 (cat_aV _ _) sm_z)) (by decide)) ?_
  refine ev_bipush (pc := 12) dX3_write_12 (by decide) ?_
  refine ev_ishl (pc := 14) dX3_write_14 ?_
  refine ev_aload_n (pc := 15) (i := 1) dX3_write_15 rfl rfl ?_
  refine ev_get (pc := 16) (c9 := 7) (k9 := 10) dX3_write_16 fl_Lg_34 (by decide) hs2 gv7_10 ?_
  refine ev_iconst (pc := 19) dX3_write_19 ?_
  refine ev_ishl (pc := 20) dX3_write_20 ?_
  refine ev_ior (pc := 21) dX3_write_21 ?_
  refine ev_aload_n (pc := 22) (i := 1) dX3_write_22 rfl rfl ?_
  refine ev_get (pc := 23) (c9 := 7) (k9 := 9) dX3_write_23 fl_Lg_37 (by decide) hs2 gv7_9 ?_
  refine ev_ior (pc := 26) dX3_write_26 ?_
  obtain ⟨r6, h7, hc8, hL⟩ := cl_un hL
  refine evB_callS_V (pc := 27) (M_Cc_put hc8) dX3_write_27 mt_Cc_put st_Cc_put ml_Lg_40 (Nat.le_of_ble_eq_true rfl) rfl rfl (Nat.le_trans sm_z (by decide)) ?_
  exact evB_vret (pc := 30) dX3_write_30 rfl hL
set_option maxHeartbeats 1000000 in
set_option maxRecDepth 100000 in
theorem M_Cc_evening {ω : Wd} {z : Nat → Prop} {h h' : Hp} {a0 r : Int}  (hL : Cc_evening h a0 = some (r, h')) : CtB ω N_Cc_evening 7 [aV ω a0] z h (some (iV r)) h' := by
  unfold Cc_evening at hL
  refine Ct_of (lv := [some (aV ω a0)]) (by decide) (Nat.le_trans (sl_1 (cat_aV _ _) sl_z) (Nat.le_of_ble_eq_true rfl)) (la_1 (cat_aV _ _) la_z) ?_
  refine ev_aload_n (pc := 0) (i := 0) dX9_evening_0 rfl rfl ?_
  obtain ⟨hs1, hL⟩ := cC_un hL
  refine ev_get (pc := 1) (c9 := 9) (k9 := 14) dX9_evening_1 fl_Cc_75 (by decide) hs1 (gv9_14 hs1) ?_
  refine ev_aload_n (pc := 4) (i := 0) dX9_evening_4 rfl rfl ?_
  refine ev_get (pc := 5) (c9 := 9) (k9 := 10) dX9_evening_5 fl_Cc_58 (by decide) hs1 (gv9_10 hs1) ?_
  obtain ⟨hs2, hL⟩ := cC_un hL
  obtain ⟨r3, h4, hc5, hL⟩ := cl_un hL
  refine evB_callV_V (pc := 8) (M_Ps_offer hc5) dX9_evening_8 mt_Ps_offer st_Ps_offer ml_Cc_173 hs2 (by decide) ⟨_, rfl, rfl⟩ (Nat.le_of_ble_eq_true rfl) rfl rfl (Nat.le_trans sm_z (by decide)) ?_
  refine ev_aload_n (pc := 11) (i := 0) dX9_evening_11 rfl rfl ?_
  refine ev_aload_n (pc := 12) (i := 0) dX9_evening_12 rfl rfl ?_
  refine ev_get (pc := 13) (c9 := 9) (k9 := 10) dX9_evening_13 fl_Cc_58 (by decide) hs1 (gv9_10 hs1) ?_
  obtain ⟨r6, h7, hc8, hL⟩ := cl_un hL
  refine evB_callV_I (pc := 16) (M_Cc_eveningIn hc8) dX9_evening_16 mt_Cc_eveningIn st_Cc_eveningIn ml_Cc_188 hs1 (by decide) ⟨_, rfl, rfl⟩ (Nat.le_of_ble_eq_true rfl) rfl rfl (Nat.le_trans sm_z (by decide)) ?_
  refine ev_if_ne (pc := 19) (tgt := 24) dX9_evening_19 rfl hL rfl (fun hL => ?_) (fun hL => ?_)
  · refine ev_iconst (pc := 22) dX9_evening_22 ?_
    exact evB_iret (pc := 23) dX9_evening_23 rfl hL
  · refine ev_aload_n (pc := 24) (i := 0) dX9_evening_24 rfl rfl ?_
    refine ev_get (pc := 25) (c9 := 9) (k9 := 14) dX9_evening_25 fl_Cc_75 (by decide) hs1 (gv9_14 hs1) ?_
    obtain ⟨r9, h10, hc11, hL⟩ := cl_un hL
    refine evB_callV_V (pc := 28) (M_Ps_keep hc11) dX9_evening_28 mt_Ps_keep st_Ps_keep ml_Cc_181 hs2 (by decide) ⟨_, rfl, rfl⟩ (Nat.le_of_ble_eq_true rfl) rfl rfl (Nat.le_trans sm_z (by decide)) ?_
    refine ev_aload_n (pc := 31) (i := 0) dX9_evening_31 rfl rfl ?_
    refine ev_get (pc := 32) (c9 := 9) (k9 := 15) dX9_evening_32 fl_Cc_82 (by decide) hs1 (gv9_15 hs1) ?_
    refine ev_aload_n (pc := 35) (i := 0) dX9_evening_35 rfl rfl ?_
    refine ev_get (pc := 36) (c9 := 9) (k9 := 10) dX9_evening_36 fl_Cc_58 (by decide) hs1 (gv9_10 hs1) ?_
    obtain ⟨hs12, hL⟩ := cC_un hL
    obtain ⟨r13, h14, hc15, hL⟩ := cl_un hL
    refine evB_callV_V (pc := 39) (M_Lg_write hc15) dX9_evening_39 mt_Lg_write st_Lg_write ml_Cc_192 hs12 (by decide) ⟨_, rfl, rfl⟩ (Nat.le_of_ble_eq_true rfl) rfl rfl (Nat.le_trans sm_z (by decide)) ?_
    refine ev_aload_n (pc := 42) (i := 0) dX9_evening_42 rfl rfl ?_
    refine ev_get (pc := 43) (c9 := 9) (k9 := 10) dX9_evening_43 fl_Cc_58 (by decide) hs1 (gv9_10 hs1) ?_
    obtain ⟨hs16, hL⟩ := cC_un hL
    refine ev_get (pc := 46) (c9 := 7) (k9 := 9) dX9_evening_46 fl_Cc_195 (by decide) hs16 gv7_9 ?_
    exact evB_iret (pc := 49) dX9_evening_49 rfl hL
set_option maxHeartbeats 1000000 in
set_option maxRecDepth 100000 in
theorem KCc_sessionAt_b23 {ω : Wd} {z : Nat → Prop}  {h h' : Hp} {y0 r : Int}  (hL : Cc_sessionAt_b23 h y0 = some (r, h')) : EvB ω N_Cc_sessionAt 1 (QB (some (aV ω r)) z h') z h 23 [none, none, none] [aV ω y0] := by
  unfold Cc_sessionAt_b23 at hL
  refine ev_astore_n (pc := 23) (i := 2) (isA_aV _ _) dX9_sessionAt_23 rfl (lnl_n rfl) (Nat.le_of_ble_eq_true rfl) ?_
  refine ev_aload_n (pc := 24) (i := 2) dX9_sessionAt_24 rfl rfl ?_
  refine ev_ifnonnull (pc := 25) (tgt := 38) dX9_sessionAt_25 rfl hL rfl (fun hL => ?_) (fun hL => ?_)
  · cases hL
  · refine ev_aload_n (pc := 38) (i := 2) dX9_sessionAt_38 rfl rfl ?_
    exact evB_aret (pc := 39) dX9_sessionAt_39 rfl (Or.inl ⟨_, rfl⟩) hL
set_option maxHeartbeats 1000000 in
set_option maxRecDepth 100000 in
theorem M_Cc_sessionAt {ω : Wd} {z : Nat → Prop} {h h' : Hp} {a0 a1 r : Int}  (hL : Cc_sessionAt h a0 a1 = some (r, h')) : CtB ω N_Cc_sessionAt 1 [aV ω a0, iV a1] z h (some (aV ω r)) h' := by
  unfold Cc_sessionAt at hL
  refine Ct_of (lv := [some (aV ω a0), some (iV a1), none]) (by decide) (Nat.le_trans (sl_1 (cat_aV _ _) (sl_1 (cat_iV _) sl_z)) (Nat.le_of_ble_eq_true rfl)) (la_1 (cat_aV _ _) (la_1 (cat_iV _) (la_n la_z))) ?_
  refine ev_iload_n (pc := 0) (i := 1) dX9_sessionAt_0 rfl rfl ?_
  refine ev_if_lt (pc := 1) (tgt := 22) dX9_sessionAt_1 rfl hL rfl (fun hL => ?_) (fun hL => ?_)
  · refine ev_null (pc := 22) dX9_sessionAt_22 ?_
    exact ev_le (lvle_n (lvle_n (lvle_n lvle_z))) (KCc_sessionAt_b23  hL)
  · refine ev_iload_n (pc := 4) (i := 1) dX9_sessionAt_4 rfl rfl ?_
    refine ev_aload_n (pc := 5) (i := 0) dX9_sessionAt_5 rfl rfl ?_
    obtain ⟨hs1, hL⟩ := cC_un hL
    refine ev_get (pc := 6) (c9 := 9) (k9 := 4) dX9_sessionAt_6 fl_Cc_34 (by decide) hs1 (gv9_4 hs1) ?_
    obtain ⟨q2a, hL⟩ := cN_un hL
    refine ev_alen (pc := 9) dX9_sessionAt_9 q2a ?_
    refine ev_icmp_ge (pc := 10) (tgt := 22) dX9_sessionAt_10 rfl hL rfl (fun hL => ?_) (fun hL => ?_)
    · refine ev_aload_n (pc := 13) (i := 0) dX9_sessionAt_13 rfl rfl ?_
      refine ev_get (pc := 14) (c9 := 9) (k9 := 4) dX9_sessionAt_14 fl_Cc_34 (by decide) hs1 (gv9_4 hs1) ?_
      refine ev_iload_n (pc := 17) (i := 1) dX9_sessionAt_17 rfl rfl ?_
      obtain ⟨q3a, q3b, q3c, hL⟩ := cX_un hL
      refine ev_aald (pc := 18) dX9_sessionAt_18 (by rw [q3a]; decide) q3b q3c ?_
      refine ev_goto (pc := 19) (tgt := 23) dX9_sessionAt_19 rfl ?_
      exact ev_le (lvle_n (lvle_n (lvle_n lvle_z))) (KCc_sessionAt_b23  hL)
    · refine ev_null (pc := 22) dX9_sessionAt_22 ?_
      exact ev_le (lvle_n (lvle_n (lvle_n lvle_z))) (KCc_sessionAt_b23  hL)
set_option maxHeartbeats 1000000 in
set_option maxRecDepth 100000 in
theorem KCy_fillIn_b2_body {ω : Wd} {z : Nat → Prop}  {k2 : Hp × Int × Int × Int × Int → Option (Int × Hp)} {h h' : Hp} {x0 x1 x2 x3 r : Int}  (hk2 : ∀ s o, k2 s = some o → EvB ω N_Cy_fillIn 2 (QB none z o.2) z s.1 2 [some (iV s.2.1), some (aV ω s.2.2.1), some (iV s.2.2.2.1), some (iV s.2.2.2.2)] []) (hL : Cy_fillIn_b2_body  k2 h x0 x1 x2 x3 = some (r, h')) : EvB ω N_Cy_fillIn 2 (QB none z h') z h 2 [some (iV x0), some (aV ω x1), some (iV x2), some (iV x3)] [] := by
  unfold Cy_fillIn_b2_body at hL
  refine ev_iload_n (pc := 2) (i := 3) dX0_fillIn_2 rfl rfl ?_
  refine ev_iconst (pc := 3) dX0_fillIn_3 ?_
  refine ev_icmp_ge (pc := 4) (tgt := 31) dX0_fillIn_4 rfl hL rfl (fun hL => ?_) (fun hL => ?_)
  · refine ev_aload_n (pc := 7) (i := 1) dX0_fillIn_7 rfl rfl ?_
    refine ev_iload_n (pc := 8) (i := 2) dX0_fillIn_8 rfl rfl ?_
    refine ev_iload_n (pc := 9) (i := 3) dX0_fillIn_9 rfl rfl ?_
    refine ev_iadd (pc := 10) dX0_fillIn_10 ?_
    refine ev_gets (pc := 11) (n := 3) (by decide) dX0_fillIn_11 fl_Cy_71 ?_
    refine ev_iconst (pc := 14) dX0_fillIn_14 ?_
    refine ev_iload_n (pc := 15) (i := 0) dX0_fillIn_15 rfl rfl ?_
    refine ev_imul (pc := 16) dX0_fillIn_16 ?_
    refine ev_iload_n (pc := 17) (i := 3) dX0_fillIn_17 rfl rfl ?_
    refine ev_iadd (pc := 18) dX0_fillIn_18 ?_
    obtain ⟨r1, h2, hc3, hL⟩ := cl_un hL
    refine evB_callS_I (pc := 19) (M_Cc_at hc3) dX0_fillIn_19 mt_Cc_at st_Cc_at ml_Cy_74 (Nat.le_of_ble_eq_true rfl) rfl rfl (Nat.le_trans (sm_1 (cat_iV _) (sm_1 (cat_aV _ _) sm_z)) (by decide)) ?_
    obtain ⟨r4, h5, hc6, hL⟩ := cl_un hL
    refine evB_callS_V (pc := 22) (M_Cc_put hc6) dX0_fillIn_22 mt_Cc_put st_Cc_put ml_Cy_78 (Nat.le_of_ble_eq_true rfl) rfl rfl (Nat.le_trans sm_z (by decide)) ?_
    refine ev_iinc (pc := 25) dX0_fillIn_25 rfl (lnl_v rfl rfl) (Nat.le_of_ble_eq_true rfl) ?_
    refine ev_goto (pc := 28) (tgt := 2) dX0_fillIn_28 rfl ?_
    exact ev_le (lvle_s (lvle_s (lvle_s (lvle_s lvle_z)))) (hk2 _ _ hL)
  · exact evB_vret (pc := 31) dX0_fillIn_31 rfl hL
set_option maxHeartbeats 1000000 in
set_option maxRecDepth 100000 in
theorem KCy_fillIn_b2 {ω : Wd} {z : Nat → Prop}  {h h' : Hp} {x0 x1 x2 x3 r : Int}  (hL : Cy_fillIn_b2 h x0 x1 x2 x3 = some (r, h')) : EvB ω N_Cy_fillIn 2 (QB none z h') z h 2 [some (iV x0), some (aV ω x1), some (iV x2), some (iV x3)] [] := by
  unfold Cy_fillIn_b2 at hL
  refine itr_link (P := fun (s : Hp × Int × Int × Int × Int) (o : Int × Hp) => EvB ω N_Cy_fillIn 2 (QB none z o.2) z s.1 2 [some (iV s.2.1), some (aV ω s.2.2.1), some (iV s.2.2.2.1), some (iV s.2.2.2.2)] []) ?_ _ _ _ hL
  intro k hk s o h9
  have h10 := KCy_fillIn_b2_body (ω := ω) (z := z) (k2 := k) (h := s.1) (x0 := s.2.1) (x1 := s.2.2.1) (x2 := s.2.2.2.1) (x3 := s.2.2.2.2) (r := o.1) (h' := o.2) 
  exact h10 hk h9
set_option maxHeartbeats 1000000 in
set_option maxRecDepth 100000 in
theorem M_Cy_fillIn {ω : Wd} {z : Nat → Prop} {h h' : Hp} {a0 a1 a2 r : Int}  (hL : Cy_fillIn h a0 a1 a2 = some (r, h')) : CtB ω N_Cy_fillIn 2 [iV a0, aV ω a1, iV a2] z h none h' := by
  unfold Cy_fillIn at hL
  refine Ct_of (lv := [some (iV a0), some (aV ω a1), some (iV a2), none]) (by decide) (Nat.le_trans (sl_1 (cat_iV _) (sl_1 (cat_aV _ _) (sl_1 (cat_iV _) sl_z))) (Nat.le_of_ble_eq_true rfl)) (la_1 (cat_iV _) (la_1 (cat_aV _ _) (la_1 (cat_iV _) (la_n la_z)))) ?_
  refine ev_iconst (pc := 0) dX0_fillIn_0 ?_
  refine ev_istore_n (pc := 1) (i := 3) dX0_fillIn_1 rfl (lnl_v rfl rfl) (Nat.le_of_ble_eq_true rfl) ?_
  exact ev_le (lvle_s (lvle_s (lvle_s (lvle_s lvle_z)))) (KCy_fillIn_b2  hL)
set_option maxHeartbeats 1000000 in
set_option maxRecDepth 100000 in
theorem KCy_itemOf_b2_body {ω : Wd} {z : Nat → Prop}  {k2 : Hp × Int × Int × Int → Option (Int × Hp)} {h h' : Hp} {x0 x1 x2 r : Int}  (hk2 : ∀ s o, k2 s = some o → EvB ω N_Cy_itemOf 2 (QB (some (iV o.1)) z o.2) z s.1 2 [some (iV s.2.1), some (iV s.2.2.1), some (iV s.2.2.2)] []) (hL : Cy_itemOf_b2_body  k2 h x0 x1 x2 = some (r, h')) : EvB ω N_Cy_itemOf 2 (QB (some (iV r)) z h') z h 2 [some (iV x0), some (iV x1), some (iV x2)] [] := by
  unfold Cy_itemOf_b2_body at hL
  refine ev_iload_n (pc := 2) (i := 2) dX0_itemOf_2 rfl rfl ?_
  refine ev_iconst (pc := 3) dX0_itemOf_3 ?_
  refine ev_icmp_ge (pc := 4) (tgt := 30) dX0_itemOf_4 rfl hL rfl (fun hL => ?_) (fun hL => ?_)
  · refine ev_gets (pc := 7) (n := 0) (by decide) dX0_itemOf_7 fl_Cy_103 ?_
    refine ev_iconst (pc := 10) dX0_itemOf_10 ?_
    refine ev_iload_n (pc := 11) (i := 0) dX0_itemOf_11 rfl rfl ?_
    refine ev_imul (pc := 12) dX0_itemOf_12 ?_
    refine ev_iload_n (pc := 13) (i := 2) dX0_itemOf_13 rfl rfl ?_
    refine ev_iadd (pc := 14) dX0_itemOf_14 ?_
    obtain ⟨r1, h2, hc3, hL⟩ := cl_un hL
    refine evB_callS_I (pc := 15) (M_Cc_at hc3) dX0_itemOf_15 mt_Cc_at st_Cc_at ml_Cy_74 (Nat.le_of_ble_eq_true rfl) rfl rfl (Nat.le_trans sm_z (by decide)) ?_
    refine ev_iload_n (pc := 18) (i := 1) dX0_itemOf_18 rfl rfl ?_
    refine ev_icmp_ne (pc := 19) (tgt := 24) dX0_itemOf_19 rfl hL rfl (fun hL => ?_) (fun hL => ?_)
    · refine ev_iload_n (pc := 22) (i := 2) dX0_itemOf_22 rfl rfl ?_
      exact evB_iret (pc := 23) dX0_itemOf_23 rfl hL
    · refine ev_iinc (pc := 24) dX0_itemOf_24 rfl (lnl_v rfl rfl) (Nat.le_of_ble_eq_true rfl) ?_
      refine ev_goto (pc := 27) (tgt := 2) dX0_itemOf_27 rfl ?_
      exact ev_le (lvle_s (lvle_s (lvle_s lvle_z))) (hk2 _ _ hL)
  · refine ev_iconst (pc := 30) dX0_itemOf_30 ?_
    exact evB_iret (pc := 31) dX0_itemOf_31 rfl hL
set_option maxHeartbeats 1000000 in
set_option maxRecDepth 100000 in
theorem KCy_itemOf_b2 {ω : Wd} {z : Nat → Prop}  {h h' : Hp} {x0 x1 x2 r : Int}  (hL : Cy_itemOf_b2 h x0 x1 x2 = some (r, h')) : EvB ω N_Cy_itemOf 2 (QB (some (iV r)) z h') z h 2 [some (iV x0), some (iV x1), some (iV x2)] [] := by
  unfold Cy_itemOf_b2 at hL
  refine itr_link (P := fun (s : Hp × Int × Int × Int) (o : Int × Hp) => EvB ω N_Cy_itemOf 2 (QB (some (iV o.1)) z o.2) z s.1 2 [some (iV s.2.1), some (iV s.2.2.1), some (iV s.2.2.2)] []) ?_ _ _ _ hL
  intro k hk s o h9
  have h10 := KCy_itemOf_b2_body (ω := ω) (z := z) (k2 := k) (h := s.1) (x0 := s.2.1) (x1 := s.2.2.1) (x2 := s.2.2.2) (r := o.1) (h' := o.2) 
  exact h10 hk h9
set_option maxHeartbeats 1000000 in
set_option maxRecDepth 100000 in
theorem M_Cy_itemOf {ω : Wd} {z : Nat → Prop} {h h' : Hp} {a0 a1 r : Int}  (hL : Cy_itemOf h a0 a1 = some (r, h')) : CtB ω N_Cy_itemOf 2 [iV a0, iV a1] z h (some (iV r)) h' := by
  unfold Cy_itemOf at hL
  refine Ct_of (lv := [some (iV a0), some (iV a1), none]) (by decide) (Nat.le_trans (sl_1 (cat_iV _) (sl_1 (cat_iV _) sl_z)) (Nat.le_of_ble_eq_true rfl)) (la_1 (cat_iV _) (la_1 (cat_iV _) (la_n la_z))) ?_
  refine ev_iconst (pc := 0) dX0_itemOf_0 ?_
  refine ev_istore_n (pc := 1) (i := 2) dX0_itemOf_1 rfl (lnl_v rfl rfl) (Nat.le_of_ble_eq_true rfl) ?_
  exact ev_le (lvle_s (lvle_s (lvle_s lvle_z))) (KCy_itemOf_b2  hL)
set_option maxHeartbeats 1000000 in
set_option maxRecDepth 100000 in
theorem M_Tp_fail {ω : Wd} {z : Nat → Prop} {h h' : Hp} {a0 r : Int}  (hL : Tp_fail h a0 = some (r, h')) : CtB ω N_Tp_fail 1 [aV ω a0] z h (some (iV r)) h' := by
  unfold Tp_fail at hL
  refine Ct_of (lv := [some (aV ω a0)]) (by decide) (Nat.le_trans (sl_1 (cat_aV _ _) sl_z) (Nat.le_of_ble_eq_true rfl)) (la_1 (cat_aV _ _) la_z) ?_
  refine ev_aload_n (pc := 0) (i := 0) dX8_fail_0 rfl rfl ?_
  refine ev_aload_n (pc := 1) (i := 0) dX8_fail_1 rfl rfl ?_
  obtain ⟨hs1, hL⟩ := cC_un hL
  refine ev_get (pc := 2) (c9 := 8) (k9 := 2) dX8_fail_2 fl_Tp_19 (by decide) hs1 gv8_2 ?_
  refine evB_putI (pc := 5) (c9 := 8) (k9 := 3) (kI := 3) dX8_fail_5 fl_Tp_22 hs1 (by decide) (fun q hq => by cases hq; rfl) rfl rfl rfl ?_
  refine ev_puG hL (fun h2 hL => ?_)
  refine ev_iconst (pc := 8) dX8_fail_8 ?_
  exact evB_zret (pc := 9) dX8_fail_9 rfl rfl hL
set_option maxHeartbeats 1000000 in
set_option maxRecDepth 100000 in
theorem KTp_next_b2_body {ω : Wd} {z : Nat → Prop}  {k2 : Hp × Int × Int → Option (Int × Hp)} {h h' : Hp} {x0 x1 r : Int}  (hk2 : ∀ s o, k2 s = some o → EvB ω N_Tp_next 1 (QB (some (iV o.1)) z o.2) z s.1 2 [some (aV ω s.2.1), some (iV s.2.2)] []) (hL : Tp_next_b2_body  k2 h x0 x1 = some (r, h')) : EvB ω N_Tp_next 1 (QB (some (iV r)) z h') z h 2 [some (aV ω x0), some (iV x1)] [] := by
  unfold Tp_next_b2_body at hL
  refine ev_iload_n (pc := 2) (i := 1) dX8_next_2 rfl rfl ?_
  refine ev_sipush (pc := 3) dX8_next_3 (by decide) ?_
  refine ev_icmp_ge (pc := 6) (tgt := 77) dX8_next_6 rfl hL rfl (fun hL => ?_) (fun hL => ?_)
  · refine ev_aload_n (pc := 9) (i := 0) dX8_next_9 rfl rfl ?_
    obtain ⟨hs1, hL⟩ := cC_un hL
    refine ev_get (pc := 10) (c9 := 8) (k9 := 2) dX8_next_10 fl_Tp_19 (by decide) hs1 gv8_2 ?_
    refine ev_if_lt (pc := 13) (tgt := 77) dX8_next_13 rfl hL rfl (fun hL => ?_) (fun hL => ?_)
    · refine ev_iconst (pc := 77) dX8_next_77 ?_
      exact evB_iret (pc := 78) dX8_next_78 rfl hL
    · refine ev_aload_n (pc := 16) (i := 0) dX8_next_16 rfl rfl ?_
      refine ev_get (pc := 17) (c9 := 8) (k9 := 2) dX8_next_17 fl_Tp_19 (by decide) hs1 gv8_2 ?_
      refine ev_aload_n (pc := 20) (i := 0) dX8_next_20 rfl rfl ?_
      refine ev_get (pc := 21) (c9 := 8) (k9 := 1) dX8_next_21 fl_Tp_15 (by decide) hs1 gv8_1 ?_
      refine ev_icmp_ge (pc := 24) (tgt := 77) dX8_next_24 rfl hL rfl (fun hL => ?_) (fun hL => ?_)
      · refine ev_aload_n (pc := 27) (i := 0) dX8_next_27 rfl rfl ?_
        refine ev_get (pc := 28) (c9 := 8) (k9 := 2) dX8_next_28 fl_Tp_19 (by decide) hs1 gv8_2 ?_
        refine ev_sipush (pc := 31) dX8_next_31 (by decide) ?_
        refine ev_icmp_ge (pc := 34) (tgt := 77) dX8_next_34 rfl hL rfl (fun hL => ?_) (fun hL => ?_)
        · refine ev_aload_n (pc := 37) (i := 0) dX8_next_37 rfl rfl ?_
          refine ev_get (pc := 38) (c9 := 8) (k9 := 0) dX8_next_38 fl_Tp_11 (by decide) hs1 (gv8_0 hs1) ?_
          refine ev_aload_n (pc := 41) (i := 0) dX8_next_41 rfl rfl ?_
          refine ev_get (pc := 42) (c9 := 8) (k9 := 2) dX8_next_42 fl_Tp_19 (by decide) hs1 gv8_2 ?_
          obtain ⟨q2a, q2b, q2c, hL⟩ := cX_un hL
          refine ev_iald (pc := 45) dX8_next_45 q2a q2b q2c ?_
          refine ev_bipush (pc := 46) dX8_next_46 (by decide) ?_
          refine ev_icmp_eq (pc := 48) (tgt := 61) dX8_next_48 rfl hL rfl (fun hL => ?_) (fun hL => ?_)
          · refine ev_aload_n (pc := 61) (i := 0) dX8_next_61 rfl rfl ?_
            refine ev_dup (pc := 62) dX8_next_62 (cat_aV _ _) ?_
            refine ev_get (pc := 63) (c9 := 8) (k9 := 2) dX8_next_63 fl_Tp_19 (by decide) hs1 gv8_2 ?_
            refine ev_iconst (pc := 66) dX8_next_66 ?_
            refine ev_iadd (pc := 67) dX8_next_67 ?_
            refine evB_putI (pc := 68) (c9 := 8) (k9 := 2) (kI := 2) dX8_next_68 fl_Tp_19 hs1 (by decide) (fun q hq => by cases hq; rfl) rfl rfl rfl ?_
            refine ev_puG hL (fun h3 hL => ?_)
            refine ev_iinc (pc := 71) dX8_next_71 rfl (lnl_v (cat_aV _ _) rfl) (Nat.le_of_ble_eq_true rfl) ?_
            refine ev_goto (pc := 74) (tgt := 2) dX8_next_74 rfl ?_
            exact ev_le (lvle_s (lvle_s lvle_z)) (hk2 _ _ hL)
          · refine ev_aload_n (pc := 51) (i := 0) dX8_next_51 rfl rfl ?_
            refine ev_get (pc := 52) (c9 := 8) (k9 := 0) dX8_next_52 fl_Tp_11 (by decide) hs1 (gv8_0 hs1) ?_
            refine ev_aload_n (pc := 55) (i := 0) dX8_next_55 rfl rfl ?_
            refine ev_get (pc := 56) (c9 := 8) (k9 := 2) dX8_next_56 fl_Tp_19 (by decide) hs1 gv8_2 ?_
            obtain ⟨q4a, q4b, q4c, hL⟩ := cX_un hL
            refine ev_iald (pc := 59) dX8_next_59 q4a q4b q4c ?_
            exact evB_iret (pc := 60) dX8_next_60 rfl hL
        · refine ev_iconst (pc := 77) dX8_next_77 ?_
          exact evB_iret (pc := 78) dX8_next_78 rfl hL
      · refine ev_iconst (pc := 77) dX8_next_77 ?_
        exact evB_iret (pc := 78) dX8_next_78 rfl hL
  · refine ev_iconst (pc := 77) dX8_next_77 ?_
    exact evB_iret (pc := 78) dX8_next_78 rfl hL
set_option maxHeartbeats 1000000 in
set_option maxRecDepth 100000 in
theorem KTp_next_b2 {ω : Wd} {z : Nat → Prop}  {h h' : Hp} {x0 x1 r : Int}  (hL : Tp_next_b2 h x0 x1 = some (r, h')) : EvB ω N_Tp_next 1 (QB (some (iV r)) z h') z h 2 [some (aV ω x0), some (iV x1)] [] := by
  unfold Tp_next_b2 at hL
  refine itr_link (P := fun (s : Hp × Int × Int) (o : Int × Hp) => EvB ω N_Tp_next 1 (QB (some (iV o.1)) z o.2) z s.1 2 [some (aV ω s.2.1), some (iV s.2.2)] []) ?_ _ _ _ hL
  intro k hk s o h9
  have h10 := KTp_next_b2_body (ω := ω) (z := z) (k2 := k) (h := s.1) (x0 := s.2.1) (x1 := s.2.2) (r := o.1) (h' := o.2) 
  exact h10 hk h9
set_option maxHeartbeats 1000000 in
set_option maxRecDepth 100000 in
theorem M_Tp_next {ω : Wd} {z : Nat → Prop} {h h' : Hp} {a0 r : Int}  (hL : Tp_next h a0 = some (r, h')) : CtB ω N_Tp_next 1 [aV ω a0] z h (some (iV r)) h' := by
  unfold Tp_next at hL
  refine Ct_of (lv := [some (aV ω a0), none]) (by decide) (Nat.le_trans (sl_1 (cat_aV _ _) sl_z) (Nat.le_of_ble_eq_true rfl)) (la_1 (cat_aV _ _) (la_n la_z)) ?_
  refine ev_iconst (pc := 0) dX8_next_0 ?_
  refine ev_istore_n (pc := 1) (i := 1) dX8_next_1 rfl (lnl_v (cat_aV _ _) rfl) (Nat.le_of_ble_eq_true rfl) ?_
  exact ev_le (lvle_s (lvle_s lvle_z)) (KTp_next_b2  hL)
set_option maxHeartbeats 1000000 in
set_option maxRecDepth 100000 in
theorem M_Tp_here {ω : Wd} {z : Nat → Prop} {h h' : Hp} {a0 r : Int}  (hL : Tp_here h a0 = some (r, h')) : CtB ω N_Tp_here 1 [aV ω a0] z h (some (iV r)) h' := by
  unfold Tp_here at hL
  refine Ct_of (lv := [some (aV ω a0)]) (by decide) (Nat.le_trans (sl_1 (cat_aV _ _) sl_z) (Nat.le_of_ble_eq_true rfl)) (la_1 (cat_aV _ _) la_z) ?_
  refine ev_aload_n (pc := 0) (i := 0) dX8_here_0 rfl rfl ?_
  obtain ⟨hs1, hL⟩ := cC_un hL
  refine ev_get (pc := 1) (c9 := 8) (k9 := 2) dX8_here_1 fl_Tp_19 (by decide) hs1 gv8_2 ?_
  refine ev_if_lt (pc := 4) (tgt := 40) dX8_here_4 rfl hL rfl (fun hL => ?_) (fun hL => ?_)
  · refine ev_iconst (pc := 40) dX8_here_40 ?_
    exact evB_iret (pc := 41) dX8_here_41 rfl hL
  · refine ev_aload_n (pc := 7) (i := 0) dX8_here_7 rfl rfl ?_
    refine ev_get (pc := 8) (c9 := 8) (k9 := 2) dX8_here_8 fl_Tp_19 (by decide) hs1 gv8_2 ?_
    refine ev_aload_n (pc := 11) (i := 0) dX8_here_11 rfl rfl ?_
    refine ev_get (pc := 12) (c9 := 8) (k9 := 1) dX8_here_12 fl_Tp_15 (by decide) hs1 gv8_1 ?_
    refine ev_icmp_ge (pc := 15) (tgt := 40) dX8_here_15 rfl hL rfl (fun hL => ?_) (fun hL => ?_)
    · refine ev_aload_n (pc := 18) (i := 0) dX8_here_18 rfl rfl ?_
      refine ev_get (pc := 19) (c9 := 8) (k9 := 2) dX8_here_19 fl_Tp_19 (by decide) hs1 gv8_2 ?_
      refine ev_sipush (pc := 22) dX8_here_22 (by decide) ?_
      refine ev_icmp_ge (pc := 25) (tgt := 40) dX8_here_25 rfl hL rfl (fun hL => ?_) (fun hL => ?_)
      · refine ev_aload_n (pc := 28) (i := 0) dX8_here_28 rfl rfl ?_
        refine ev_get (pc := 29) (c9 := 8) (k9 := 0) dX8_here_29 fl_Tp_11 (by decide) hs1 (gv8_0 hs1) ?_
        refine ev_aload_n (pc := 32) (i := 0) dX8_here_32 rfl rfl ?_
        refine ev_get (pc := 33) (c9 := 8) (k9 := 2) dX8_here_33 fl_Tp_19 (by decide) hs1 gv8_2 ?_
        obtain ⟨q2a, q2b, q2c, hL⟩ := cX_un hL
        refine ev_iald (pc := 36) dX8_here_36 q2a q2b q2c ?_
        refine ev_goto (pc := 37) (tgt := 41) dX8_here_37 rfl ?_
        exact evB_iret (pc := 41) dX8_here_41 rfl hL
      · refine ev_iconst (pc := 40) dX8_here_40 ?_
        exact evB_iret (pc := 41) dX8_here_41 rfl hL
    · refine ev_iconst (pc := 40) dX8_here_40 ?_
      exact evB_iret (pc := 41) dX8_here_41 rfl hL
set_option maxHeartbeats 1000000 in
set_option maxRecDepth 100000 in
theorem M_Tp_isDigit {ω : Wd} {z : Nat → Prop} {h h' : Hp} {a0 r : Int}  (hL : Tp_isDigit h a0 = some (r, h')) : CtB ω N_Tp_isDigit 1 [iV a0] z h (some (iV r)) h' := by
  unfold Tp_isDigit at hL
  refine Ct_of (lv := [some (iV a0)]) (by decide) (Nat.le_trans (sl_1 (cat_iV _) sl_z) (Nat.le_of_ble_eq_true rfl)) (la_1 (cat_iV _) la_z) ?_
  refine ev_iload_n (pc := 0) (i := 0) dX8_isDigit_0 rfl rfl ?_
  refine ev_bipush (pc := 1) dX8_isDigit_1 (by decide) ?_
  refine ev_icmp_lt (pc := 3) (tgt := 16) dX8_isDigit_3 rfl hL rfl (fun hL => ?_) (fun hL => ?_)
  · refine ev_iconst (pc := 16) dX8_isDigit_16 ?_
    exact evB_zret (pc := 17) dX8_isDigit_17 rfl rfl hL
  · refine ev_iload_n (pc := 6) (i := 0) dX8_isDigit_6 rfl rfl ?_
    refine ev_bipush (pc := 7) dX8_isDigit_7 (by decide) ?_
    refine ev_icmp_gt (pc := 9) (tgt := 16) dX8_isDigit_9 rfl hL rfl (fun hL => ?_) (fun hL => ?_)
    · refine ev_iconst (pc := 16) dX8_isDigit_16 ?_
      exact evB_zret (pc := 17) dX8_isDigit_17 rfl rfl hL
    · refine ev_iconst (pc := 12) dX8_isDigit_12 ?_
      refine ev_goto (pc := 13) (tgt := 17) dX8_isDigit_13 rfl ?_
      exact evB_zret (pc := 17) dX8_isDigit_17 rfl rfl hL
set_option maxHeartbeats 1000000 in
set_option maxRecDepth 100000 in
theorem KTp_number_b74 {ω : Wd} {z : Nat → Prop}  {h h' : Hp} {x0 r : Int}  (hL : Tp_number_b74 h x0 = some (r, h')) : EvB ω N_Tp_number 2 (QB (some (iV r)) z h') z h 74 [some (aV ω x0), none, none, none, none, none, none] [] := by
  unfold Tp_number_b74 at hL
  refine ev_aload_n (pc := 74) (i := 0) dX8_number_74 rfl rfl ?_
  obtain ⟨hs8, hL⟩ := cC_un hL
  obtain ⟨r9, h10, hc11, hL⟩ := cl_un hL
  refine evB_callV_I (pc := 75) (M_Tp_fail hc11) dX8_number_75 mt_Tp_fail st_Tp_fail ml_Tp_33 hs8 (by decide) ⟨_, rfl, rfl⟩ (Nat.le_of_ble_eq_true rfl) rfl rfl (Nat.le_trans sm_z (by decide)) ?_
  refine ev_pop (pc := 78) dX8_number_78 rfl ?_
  refine ev_iconst (pc := 79) dX8_number_79 ?_
  exact evB_iret (pc := 80) dX8_number_80 rfl hL
set_option maxHeartbeats 1000000 in
set_option maxRecDepth 100000 in
theorem KTp_number_b93 {ω : Wd} {z : Nat → Prop}  {h h' : Hp} {x0 r : Int}  (hL : Tp_number_b93 h x0 = some (r, h')) : EvB ω N_Tp_number 2 (QB (some (iV r)) z h') z h 93 [some (aV ω x0), none, none, none, none, none, none] [] := by
  unfold Tp_number_b93 at hL
  refine ev_aload_n (pc := 93) (i := 0) dX8_number_93 rfl rfl ?_
  refine ev_dup (pc := 94) dX8_number_94 (cat_aV _ _) ?_
  obtain ⟨hs15, hL⟩ := cC_un hL
  refine ev_get (pc := 95) (c9 := 8) (k9 := 2) dX8_number_95 fl_Tp_19 (by decide) hs15 gv8_2 ?_
  refine ev_iconst (pc := 98) dX8_number_98 ?_
  refine ev_isub (pc := 99) dX8_number_99 ?_
  refine evB_putI (pc := 100) (c9 := 8) (k9 := 2) (kI := 2) dX8_number_100 fl_Tp_19 hs15 (by decide) (fun q hq => by cases hq; rfl) rfl rfl rfl ?_
  refine ev_puG hL (fun h16 hL => ?_)
  refine ev_aload_n (pc := 103) (i := 0) dX8_number_103 rfl rfl ?_
  obtain ⟨r17, h18, hc19, hL⟩ := cl_un hL
  refine evB_callV_I (pc := 104) (M_Tp_fail hc19) dX8_number_104 mt_Tp_fail st_Tp_fail ml_Tp_33 hs15 (by decide) ⟨_, rfl, rfl⟩ (Nat.le_of_ble_eq_true rfl) rfl rfl (Nat.le_trans sm_z (by decide)) ?_
  refine ev_pop (pc := 107) dX8_number_107 rfl ?_
  refine ev_iconst (pc := 108) dX8_number_108 ?_
  exact evB_iret (pc := 109) dX8_number_109 rfl hL
set_option maxHeartbeats 1000000 in
set_option maxRecDepth 100000 in
theorem KTp_number_b61 {ω : Wd} {z : Nat → Prop}  {h h' : Hp} {x0 x2 x3 x4 x5 x6 r : Int}  (hL : Tp_number_b61 h x0 x2 x3 x4 x5 x6 = some (r, h')) : EvB ω N_Tp_number 2 (QB (some (iV r)) z h') z h 61 [some (aV ω x0), none, some (iV x2), some (iV x3), some (iV x4), some (iV x5), some (iV x6)] [] := by
  unfold Tp_number_b61 at hL
  refine ev_iload (pc := 61) dX8_number_61 rfl ?_
  refine ev_if_eq (pc := 63) (tgt := 74) dX8_number_63 rfl hL rfl (fun hL => ?_) (fun hL => ?_)
  · exact ev_le (lvle_s (lvle_n (lvle_n (lvle_n (lvle_n (lvle_n (lvle_n lvle_z))))))) (KTp_number_b74  hL)
  · refine ev_iload (pc := 66) dX8_number_66 rfl ?_
    obtain ⟨r12, h13, hc14, hL⟩ := cl_un hL
    refine evB_callS_I (pc := 68) (M_Tp_isDigit hc14) dX8_number_68 mt_Tp_isDigit st_Tp_isDigit ml_Tp_37 (Nat.le_of_ble_eq_true rfl) rfl rfl (Nat.le_trans sm_z (by decide)) ?_
    refine ev_if_eq (pc := 71) (tgt := 81) dX8_number_71 rfl hL rfl (fun hL => ?_) (fun hL => ?_)
    · refine ev_iload (pc := 81) dX8_number_81 rfl ?_
      refine ev_iload_n (pc := 83) (i := 2) dX8_number_83 rfl rfl ?_
      refine ev_icmp_lt (pc := 84) (tgt := 93) dX8_number_84 rfl hL rfl (fun hL => ?_) (fun hL => ?_)
      · exact ev_le (lvle_s (lvle_n (lvle_n (lvle_n (lvle_n (lvle_n (lvle_n lvle_z))))))) (KTp_number_b93  hL)
      · refine ev_iload (pc := 87) dX8_number_87 rfl ?_
        refine ev_iload_n (pc := 89) (i := 3) dX8_number_89 rfl rfl ?_
        refine ev_icmp_le (pc := 90) (tgt := 110) dX8_number_90 rfl hL rfl (fun hL => ?_) (fun hL => ?_)
        · exact ev_le (lvle_s (lvle_n (lvle_n (lvle_n (lvle_n (lvle_n (lvle_n lvle_z))))))) (KTp_number_b93  hL)
        · refine ev_iload (pc := 110) dX8_number_110 rfl ?_
          exact evB_iret (pc := 112) dX8_number_112 rfl hL
    · exact ev_le (lvle_s (lvle_n (lvle_n (lvle_n (lvle_n (lvle_n (lvle_n lvle_z))))))) (KTp_number_b74  hL)
set_option maxHeartbeats 1000000 in
set_option maxRecDepth 100000 in
theorem KTp_number_b12_body {ω : Wd} {z : Nat → Prop}  {k12 : Hp × Int × Int × Int × Int × Int × Int × Int → Option (Int × Hp)} {h h' : Hp} {x0 x1 x2 x3 x4 x5 x6 r : Int}  (hk12 : ∀ s o, k12 s = some o → EvB ω N_Tp_number 2 (QB (some (iV o.1)) z o.2) z s.1 12 [some (aV ω s.2.1), some (iV s.2.2.1), some (iV s.2.2.2.1), some (iV s.2.2.2.2.1), some (iV s.2.2.2.2.2.1), some (iV s.2.2.2.2.2.2.1), some (iV s.2.2.2.2.2.2.2)] []) (hL : Tp_number_b12_body  k12 h x0 x1 x2 x3 x4 x5 x6 = some (r, h')) : EvB ω N_Tp_number 2 (QB (some (iV r)) z h') z h 12 [some (aV ω x0), some (iV x1), some (iV x2), some (iV x3), some (iV x4), some (iV x5), some (iV x6)] [] := by
  unfold Tp_number_b12_body at hL
  refine ev_iload (pc := 12) dX8_number_12 rfl ?_
  refine ev_iload_n (pc := 14) (i := 1) dX8_number_14 rfl rfl ?_
  refine ev_icmp_ge (pc := 15) (tgt := 61) dX8_number_15 rfl hL rfl (fun hL => ?_) (fun hL => ?_)
  · refine ev_iload (pc := 18) dX8_number_18 rfl ?_
    obtain ⟨r5, h6, hc7, hL⟩ := cl_un hL
    refine evB_callS_I (pc := 20) (M_Tp_isDigit hc7) dX8_number_20 mt_Tp_isDigit st_Tp_isDigit ml_Tp_37 (Nat.le_of_ble_eq_true rfl) rfl rfl (Nat.le_trans sm_z (by decide)) ?_
    refine ev_if_eq (pc := 23) (tgt := 61) dX8_number_23 rfl hL rfl (fun hL => ?_) (fun hL => ?_)
    · exact ev_le (lvle_s (lvle_n (lvle_s (lvle_s (lvle_s (lvle_s (lvle_s lvle_z))))))) (KTp_number_b61  hL)
    · refine ev_iload (pc := 26) dX8_number_26 rfl ?_
      refine ev_bipush (pc := 28) dX8_number_28 (by decide) ?_
      refine ev_imul (pc := 30) dX8_number_30 ?_
      refine ev_iload (pc := 31) dX8_number_31 rfl ?_
      refine ev_iadd (pc := 33) dX8_number_33 ?_
      refine ev_bipush (pc := 34) dX8_number_34 (by decide) ?_
      refine ev_isub (pc := 36) dX8_number_36 ?_
      refine ev_bdI hL (fun v20 hL => ?_)
      refine ev_istore (pc := 37) dX8_number_37 (lnl_v rfl rfl) (Nat.le_of_ble_eq_true rfl) ?_
      refine ev_aload_n (pc := 39) (i := 0) dX8_number_39 rfl rfl ?_
      refine ev_dup (pc := 40) dX8_number_40 (cat_aV _ _) ?_
      obtain ⟨hs21, hL⟩ := cC_un hL
      refine ev_get (pc := 41) (c9 := 8) (k9 := 2) dX8_number_41 fl_Tp_19 (by decide) hs21 gv8_2 ?_
      refine ev_iconst (pc := 44) dX8_number_44 ?_
      refine ev_iadd (pc := 45) dX8_number_45 ?_
      refine evB_putI (pc := 46) (c9 := 8) (k9 := 2) (kI := 2) dX8_number_46 fl_Tp_19 hs21 (by decide) (fun q hq => by cases hq; rfl) rfl rfl rfl ?_
      refine ev_puG hL (fun h22 hL => ?_)
      refine ev_aload_n (pc := 49) (i := 0) dX8_number_49 rfl rfl ?_
      obtain ⟨r23, h24, hc25, hL⟩ := cl_un hL
      refine evB_callV_I (pc := 50) (M_Tp_here hc25) dX8_number_50 mt_Tp_here st_Tp_here ml_Tp_41 hs21 (by decide) ⟨_, rfl, rfl⟩ (Nat.le_of_ble_eq_true rfl) rfl rfl (Nat.le_trans sm_z (by decide)) ?_
      refine ev_istore (pc := 53) dX8_number_53 (lnl_v rfl rfl) (Nat.le_of_ble_eq_true rfl) ?_
      refine ev_iinc (pc := 55) dX8_number_55 rfl (lnl_v rfl rfl) (Nat.le_of_ble_eq_true rfl) ?_
      refine ev_goto (pc := 58) (tgt := 12) dX8_number_58 rfl ?_
      exact ev_le (lvle_s (lvle_s (lvle_s (lvle_s (lvle_s (lvle_s (lvle_s lvle_z))))))) (hk12 _ _ hL)
  · exact ev_le (lvle_s (lvle_n (lvle_s (lvle_s (lvle_s (lvle_s (lvle_s lvle_z))))))) (KTp_number_b61  hL)
set_option maxHeartbeats 1000000 in
set_option maxRecDepth 100000 in
theorem KTp_number_b12 {ω : Wd} {z : Nat → Prop}  {h h' : Hp} {x0 x1 x2 x3 x4 x5 x6 r : Int}  (hL : Tp_number_b12 h x0 x1 x2 x3 x4 x5 x6 = some (r, h')) : EvB ω N_Tp_number 2 (QB (some (iV r)) z h') z h 12 [some (aV ω x0), some (iV x1), some (iV x2), some (iV x3), some (iV x4), some (iV x5), some (iV x6)] [] := by
  unfold Tp_number_b12 at hL
  refine itr_link (P := fun (s : Hp × Int × Int × Int × Int × Int × Int × Int) (o : Int × Hp) => EvB ω N_Tp_number 2 (QB (some (iV o.1)) z o.2) z s.1 12 [some (aV ω s.2.1), some (iV s.2.2.1), some (iV s.2.2.2.1), some (iV s.2.2.2.2.1), some (iV s.2.2.2.2.2.1), some (iV s.2.2.2.2.2.2.1), some (iV s.2.2.2.2.2.2.2)] []) ?_ _ _ _ hL
  intro k hk s o h9
  have h10 := KTp_number_b12_body (ω := ω) (z := z) (k12 := k) (h := s.1) (x0 := s.2.1) (x1 := s.2.2.1) (x2 := s.2.2.2.1) (x3 := s.2.2.2.2.1) (x4 := s.2.2.2.2.2.1) (x5 := s.2.2.2.2.2.2.1) (x6 := s.2.2.2.2.2.2.2) (r := o.1) (h' := o.2) 
  exact h10 hk h9
set_option maxHeartbeats 1000000 in
set_option maxRecDepth 100000 in
theorem M_Tp_number {ω : Wd} {z : Nat → Prop} {h h' : Hp} {a0 a1 a2 a3 r : Int}  (hL : Tp_number h a0 a1 a2 a3 = some (r, h')) : CtB ω N_Tp_number 2 [aV ω a0, iV a1, iV a2, iV a3] z h (some (iV r)) h' := by
  unfold Tp_number at hL
  refine Ct_of (lv := [some (aV ω a0), some (iV a1), some (iV a2), some (iV a3), none, none, none]) (by decide) (Nat.le_trans (sl_1 (cat_aV _ _) (sl_1 (cat_iV _) (sl_1 (cat_iV _) (sl_1 (cat_iV _) sl_z)))) (Nat.le_of_ble_eq_true rfl)) (la_1 (cat_aV _ _) (la_1 (cat_iV _) (la_1 (cat_iV _) (la_1 (cat_iV _) (la_n (la_n (la_n la_z))))))) ?_
  refine ev_aload_n (pc := 0) (i := 0) dX8_number_0 rfl rfl ?_
  obtain ⟨hs1, hL⟩ := cC_un hL
  obtain ⟨r2, h3, hc4, hL⟩ := cl_un hL
  refine evB_callV_I (pc := 1) (M_Tp_next hc4) dX8_number_1 mt_Tp_next st_Tp_next ml_Tp_29 hs1 (by decide) ⟨_, rfl, rfl⟩ (Nat.le_of_ble_eq_true rfl) rfl rfl (Nat.le_trans sm_z (by decide)) ?_
  refine ev_istore (pc := 4) dX8_number_4 (lnl_v rfl rfl) (Nat.le_of_ble_eq_true rfl) ?_
  refine ev_iconst (pc := 6) dX8_number_6 ?_
  refine ev_istore (pc := 7) dX8_number_7 (lnl_v rfl rfl) (Nat.le_of_ble_eq_true rfl) ?_
  refine ev_iconst (pc := 9) dX8_number_9 ?_
  refine ev_istore (pc := 10) dX8_number_10 (lnl_v rfl rfl) (Nat.le_of_ble_eq_true rfl) ?_
  exact ev_le (lvle_s (lvle_s (lvle_s (lvle_s (lvle_s (lvle_s (lvle_s lvle_z))))))) (KTp_number_b12  hL)
set_option maxHeartbeats 1000000 in
set_option maxRecDepth 100000 in
theorem KCy_items_b72 {ω : Wd} {z : Nat → Prop}  {h h' : Hp} {x0 r : Int}  (hL : Cy_items_b72 h x0 = some (r, h')) : EvB ω N_Cy_items 3 (QB (some (iV r)) z h') z h 72 [some (aV ω x0), none, none, none, none, none, none, none, none] [] := by
  unfold Cy_items_b72 at hL
  refine ev_aload_n (pc := 72) (i := 0) dX0_items_72 rfl rfl ?_
  obtain ⟨hs17, hL⟩ := cC_un hL
  obtain ⟨r18, h19, hc20, hL⟩ := cl_un hL
  refine evB_callV_I (pc := 73) (M_Tp_fail hc20) dX0_items_73 mt_Tp_fail st_Tp_fail ml_Cy_53 hs17 (by decide) ⟨_, rfl, rfl⟩ (Nat.le_of_ble_eq_true rfl) rfl rfl (Nat.le_trans sm_z (by decide)) ?_
  exact evB_zret (pc := 76) dX0_items_76 rfl rfl hL
set_option maxHeartbeats 1000000 in
set_option maxRecDepth 100000 in
theorem KCy_items_b22_body {ω : Wd} {z : Nat → Prop}  {k22 : Hp × Int × Int × Int × Int × Int × Int → Option (Int × Hp)} {h h' : Hp} {x0 x1 x2 x3 x4 x5 r : Int}  (hk22 : ∀ s o, k22 s = some o → EvB ω N_Cy_items 3 (QB (some (iV o.1)) z o.2) z s.1 22 [some (aV ω s.2.1), some (iV s.2.2.1), some (aV ω s.2.2.2.1), some (iV s.2.2.2.2.1), some (iV s.2.2.2.2.2.1), some (iV s.2.2.2.2.2.2), none, none, none] []) (hL : Cy_items_b22_body  k22 h x0 x1 x2 x3 x4 x5 = some (r, h')) : EvB ω N_Cy_items 3 (QB (some (iV r)) z h') z h 22 [some (aV ω x0), some (iV x1), some (aV ω x2), some (iV x3), some (iV x4), some (iV x5), none, none, none] [] := by
  unfold Cy_items_b22_body at hL
  refine ev_iload (pc := 22) dX0_items_22 rfl ?_
  refine ev_iconst (pc := 24) dX0_items_24 ?_
  refine ev_icmp_gt (pc := 25) (tgt := 151) dX0_items_25 rfl hL rfl (fun hL => ?_) (fun hL => ?_)
  · refine ev_aload_n (pc := 151) (i := 0) dX0_items_151 rfl rfl ?_
    obtain ⟨hs6, hL⟩ := cC_un hL
    obtain ⟨r7, h8, hc9, hL⟩ := cl_un hL
    refine evB_callV_I (pc := 152) (M_Tp_fail hc9) dX0_items_152 mt_Tp_fail st_Tp_fail ml_Cy_53 hs6 (by decide) ⟨_, rfl, rfl⟩ (Nat.le_of_ble_eq_true rfl) rfl rfl (Nat.le_trans sm_z (by decide)) ?_
    exact evB_zret (pc := 155) dX0_items_155 rfl rfl hL
  · refine ev_aload_n (pc := 28) (i := 0) dX0_items_28 rfl rfl ?_
    obtain ⟨hs10, hL⟩ := cC_un hL
    obtain ⟨r11, h12, hc13, hL⟩ := cl_un hL
    refine evB_callV_I (pc := 29) (M_Tp_next hc13) dX0_items_29 mt_Tp_next st_Tp_next ml_Cy_45 hs10 (by decide) ⟨_, rfl, rfl⟩ (Nat.le_of_ble_eq_true rfl) rfl rfl (Nat.le_trans sm_z (by decide)) ?_
    refine ev_istore (pc := 32) dX0_items_32 (lnl_v rfl rfl) (Nat.le_of_ble_eq_true rfl) ?_
    refine ev_iload (pc := 34) dX0_items_34 rfl ?_
    refine ev_if_eq (pc := 36) (tgt := 46) dX0_items_36 rfl hL rfl (fun hL => ?_) (fun hL => ?_)
    · refine ev_iconst (pc := 46) dX0_items_46 ?_
      exact evB_zret (pc := 47) dX0_items_47 rfl rfl hL
    · refine ev_iload (pc := 39) dX0_items_39 rfl ?_
      refine ev_bipush (pc := 41) dX0_items_41 (by decide) ?_
      refine ev_icmp_ne (pc := 43) (tgt := 48) dX0_items_43 rfl hL rfl (fun hL => ?_) (fun hL => ?_)
      · refine ev_iconst (pc := 46) dX0_items_46 ?_
        exact evB_zret (pc := 47) dX0_items_47 rfl rfl hL
      · refine ev_iload_n (pc := 48) (i := 1) dX0_items_48 rfl rfl ?_
        refine ev_iload (pc := 49) dX0_items_49 rfl ?_
        obtain ⟨r14, h15, hc16, hL⟩ := cl_un hL
        refine evB_callS_I (pc := 51) (M_Cy_itemOf hc16) dX0_items_51 mt_Cy_itemOf st_Cy_itemOf ml_Cy_85 (Nat.le_of_ble_eq_true rfl) rfl rfl (Nat.le_trans sm_z (by decide)) ?_
        refine ev_istore (pc := 54) dX0_items_54 (lnl_v rfl rfl) (Nat.le_of_ble_eq_true rfl) ?_
        refine ev_iload (pc := 56) dX0_items_56 rfl ?_
        refine ev_iconst (pc := 58) dX0_items_58 ?_
        refine ev_icmp_eq (pc := 59) (tgt := 72) dX0_items_59 rfl hL rfl (fun hL => ?_) (fun hL => ?_)
        · exact ev_le (lvle_s (lvle_n (lvle_n (lvle_n (lvle_n (lvle_n (lvle_n (lvle_n (lvle_n lvle_z))))))))) (KCy_items_b72  hL)
        · refine ev_iload (pc := 62) dX0_items_62 rfl ?_
          refine ev_iload (pc := 64) dX0_items_64 rfl ?_
          obtain ⟨r21, h22, hc23, hL⟩ := cl_un hL
          refine evB_callS_I (pc := 66) (M_Cc_holds hc23) dX0_items_66 mt_Cc_holds st_Cc_holds ml_Cy_89 (Nat.le_of_ble_eq_true rfl) rfl rfl (Nat.le_trans sm_z (by decide)) ?_
          refine ev_if_eq (pc := 69) (tgt := 77) dX0_items_69 rfl hL rfl (fun hL => ?_) (fun hL => ?_)
          · refine ev_iload (pc := 77) dX0_items_77 rfl ?_
            refine ev_iconst (pc := 79) dX0_items_79 ?_
            refine ev_iload (pc := 80) dX0_items_80 rfl ?_
            refine ev_ishl (pc := 82) dX0_items_82 ?_
            refine ev_ior (pc := 83) dX0_items_83 ?_
            refine ev_bdI hL (fun v24 hL => ?_)
            refine ev_istore (pc := 84) dX0_items_84 (lnl_v rfl rfl) (Nat.le_of_ble_eq_true rfl) ?_
            refine ev_aload_n (pc := 86) (i := 0) dX0_items_86 rfl rfl ?_
            refine ev_dup (pc := 87) dX0_items_87 (cat_aV _ _) ?_
            refine ev_get (pc := 88) (c9 := 8) (k9 := 2) dX0_items_88 fl_Cy_82 (by decide) hs10 gv8_2 ?_
            refine ev_iconst (pc := 91) dX0_items_91 ?_
            refine ev_iadd (pc := 92) dX0_items_92 ?_
            refine evB_putI (pc := 93) (c9 := 8) (k9 := 2) (kI := 2) dX0_items_93 fl_Cy_82 hs10 (by decide) (fun q hq => by cases hq; rfl) rfl rfl rfl ?_
            refine ev_puG hL (fun h25 hL => ?_)
            refine ev_aload_n (pc := 96) (i := 0) dX0_items_96 rfl rfl ?_
            refine ev_iconst (pc := 97) dX0_items_97 ?_
            refine ev_gets (pc := 98) (n := 1) (by decide) dX0_items_98 fl_Cy_93 ?_
            refine ev_iconst (pc := 101) dX0_items_101 ?_
            refine ev_iload_n (pc := 102) (i := 1) dX0_items_102 rfl rfl ?_
            refine ev_imul (pc := 103) dX0_items_103 ?_
            refine ev_iload (pc := 104) dX0_items_104 rfl ?_
            refine ev_iadd (pc := 106) dX0_items_106 ?_
            obtain ⟨r26, h27, hc28, hL⟩ := cl_un hL
            refine evB_callS_I (pc := 107) (M_Cc_at hc28) dX0_items_107 mt_Cc_at st_Cc_at ml_Cy_74 (Nat.le_of_ble_eq_true rfl) rfl rfl (Nat.le_trans (sm_1 (cat_iV _) (sm_1 (cat_aV _ _) sm_z)) (by decide)) ?_
            refine ev_gets (pc := 110) (n := 2) (by decide) dX0_items_110 fl_Cy_96 ?_
            refine ev_iconst (pc := 113) dX0_items_113 ?_
            refine ev_iload_n (pc := 114) (i := 1) dX0_items_114 rfl rfl ?_
            refine ev_imul (pc := 115) dX0_items_115 ?_
            refine ev_iload (pc := 116) dX0_items_116 rfl ?_
            refine ev_iadd (pc := 118) dX0_items_118 ?_
            obtain ⟨r29, h30, hc31, hL⟩ := cl_un hL
            refine evB_callS_I (pc := 119) (M_Cc_at hc31) dX0_items_119 mt_Cc_at st_Cc_at ml_Cy_74 (Nat.le_of_ble_eq_true rfl) rfl rfl (Nat.le_trans (sm_1 (cat_iV _) (sm_1 (cat_iV _) (sm_1 (cat_aV _ _) sm_z))) (by decide)) ?_
            obtain ⟨r32, h33, hc34, hL⟩ := cl_un hL
            refine evB_callV_I (pc := 122) (M_Tp_number hc34) dX0_items_122 mt_Tp_number st_Tp_number ml_Cy_99 hs10 (by decide) ⟨_, rfl, rfl⟩ (Nat.le_of_ble_eq_true rfl) rfl rfl (Nat.le_trans sm_z (by decide)) ?_
            refine ev_istore (pc := 125) dX0_items_125 (lnl_v rfl rfl) (Nat.le_of_ble_eq_true rfl) ?_
            refine ev_iload (pc := 127) dX0_items_127 rfl ?_
            refine ev_iconst (pc := 129) dX0_items_129 ?_
            refine ev_icmp_ne (pc := 130) (tgt := 135) dX0_items_130 rfl hL rfl (fun hL => ?_) (fun hL => ?_)
            · refine ev_iconst (pc := 133) dX0_items_133 ?_
              exact evB_zret (pc := 134) dX0_items_134 rfl rfl hL
            · refine ev_aload_n (pc := 135) (i := 2) dX0_items_135 rfl rfl ?_
              refine ev_iload_n (pc := 136) (i := 3) dX0_items_136 rfl rfl ?_
              refine ev_iload (pc := 137) dX0_items_137 rfl ?_
              refine ev_iadd (pc := 139) dX0_items_139 ?_
              refine ev_iload (pc := 140) dX0_items_140 rfl ?_
              obtain ⟨r35, h36, hc37, hL⟩ := cl_un hL
              refine evB_callS_V (pc := 142) (M_Cc_put hc37) dX0_items_142 mt_Cc_put st_Cc_put ml_Cy_78 (Nat.le_of_ble_eq_true rfl) rfl rfl (Nat.le_trans sm_z (by decide)) ?_
              refine ev_iinc (pc := 145) dX0_items_145 rfl (lnl_v rfl rfl) (Nat.le_of_ble_eq_true rfl) ?_
              refine ev_goto (pc := 148) (tgt := 22) dX0_items_148 rfl ?_
              exact ev_le (lvle_s (lvle_s (lvle_s (lvle_s (lvle_s (lvle_s (lvle_n (lvle_n (lvle_n lvle_z))))))))) (hk22 _ _ hL)
          · exact ev_le (lvle_s (lvle_n (lvle_n (lvle_n (lvle_n (lvle_n (lvle_n (lvle_n (lvle_n lvle_z))))))))) (KCy_items_b72  hL)
set_option maxHeartbeats 1000000 in
set_option maxRecDepth 100000 in
theorem KCy_items_b22 {ω : Wd} {z : Nat → Prop}  {h h' : Hp} {x0 x1 x2 x3 x4 x5 r : Int}  (hL : Cy_items_b22 h x0 x1 x2 x3 x4 x5 = some (r, h')) : EvB ω N_Cy_items 3 (QB (some (iV r)) z h') z h 22 [some (aV ω x0), some (iV x1), some (aV ω x2), some (iV x3), some (iV x4), some (iV x5), none, none, none] [] := by
  unfold Cy_items_b22 at hL
  refine itr_link (P := fun (s : Hp × Int × Int × Int × Int × Int × Int) (o : Int × Hp) => EvB ω N_Cy_items 3 (QB (some (iV o.1)) z o.2) z s.1 22 [some (aV ω s.2.1), some (iV s.2.2.1), some (aV ω s.2.2.2.1), some (iV s.2.2.2.2.1), some (iV s.2.2.2.2.2.1), some (iV s.2.2.2.2.2.2), none, none, none] []) ?_ _ _ _ hL
  intro k hk s o h9
  have h10 := KCy_items_b22_body (ω := ω) (z := z) (k22 := k) (h := s.1) (x0 := s.2.1) (x1 := s.2.2.1) (x2 := s.2.2.2.1) (x3 := s.2.2.2.2.1) (x4 := s.2.2.2.2.2.1) (x5 := s.2.2.2.2.2.2) (r := o.1) (h' := o.2) 
  exact h10 hk h9
set_option maxHeartbeats 1000000 in
set_option maxRecDepth 100000 in
theorem M_Cy_items {ω : Wd} {z : Nat → Prop} {h h' : Hp} {a0 a1 a2 a3 r : Int}  (hL : Cy_items h a0 a1 a2 a3 = some (r, h')) : CtB ω N_Cy_items 3 [aV ω a0, iV a1, aV ω a2, iV a3] z h (some (iV r)) h' := by
  unfold Cy_items at hL
  refine Ct_of (lv := [some (aV ω a0), some (iV a1), some (aV ω a2), some (iV a3), none, none, none, none, none]) (by decide) (Nat.le_trans (sl_1 (cat_aV _ _) (sl_1 (cat_iV _) (sl_1 (cat_aV _ _) (sl_1 (cat_iV _) sl_z)))) (Nat.le_of_ble_eq_true rfl)) (la_1 (cat_aV _ _) (la_1 (cat_iV _) (la_1 (cat_aV _ _) (la_1 (cat_iV _) (la_n (la_n (la_n (la_n (la_n la_z))))))))) ?_
  refine ev_iload_n (pc := 0) (i := 1) dX0_items_0 rfl rfl ?_
  refine ev_aload_n (pc := 1) (i := 2) dX0_items_1 rfl rfl ?_
  refine ev_iload_n (pc := 2) (i := 3) dX0_items_2 rfl rfl ?_
  obtain ⟨r1, h2, hc3, hL⟩ := cl_un hL
  refine evB_callS_V (pc := 3) (M_Cy_fillIn hc3) dX0_items_3 mt_Cy_fillIn st_Cy_fillIn ml_Cy_32 (Nat.le_of_ble_eq_true rfl) rfl rfl (Nat.le_trans sm_z (by decide)) ?_
  refine ev_aload_n (pc := 6) (i := 0) dX0_items_6 rfl rfl ?_
  refine ev_dup (pc := 7) dX0_items_7 (cat_aV _ _) ?_
  obtain ⟨hs4, hL⟩ := cC_un hL
  refine ev_get (pc := 8) (c9 := 8) (k9 := 2) dX0_items_8 fl_Cy_82 (by decide) hs4 gv8_2 ?_
  refine ev_iconst (pc := 11) dX0_items_11 ?_
  refine ev_iadd (pc := 12) dX0_items_12 ?_
  refine evB_putI (pc := 13) (c9 := 8) (k9 := 2) (kI := 2) dX0_items_13 fl_Cy_82 hs4 (by decide) (fun q hq => by cases hq; rfl) rfl rfl rfl ?_
  refine ev_puG hL (fun h5 hL => ?_)
  refine ev_iconst (pc := 16) dX0_items_16 ?_
  refine ev_istore (pc := 17) dX0_items_17 (lnl_v rfl rfl) (Nat.le_of_ble_eq_true rfl) ?_
  refine ev_iconst (pc := 19) dX0_items_19 ?_
  refine ev_istore (pc := 20) dX0_items_20 (lnl_v rfl rfl) (Nat.le_of_ble_eq_true rfl) ?_
  exact ev_le (lvle_s (lvle_s (lvle_s (lvle_s (lvle_s (lvle_s (lvle_n (lvle_n (lvle_n lvle_z))))))))) (KCy_items_b22  hL)
set_option maxHeartbeats 1000000 in
set_option maxRecDepth 100000 in
theorem KCy_clause_b120 {ω : Wd} {z : Nat → Prop}  {h h' : Hp} {x1 r : Int}  (hL : Cy_clause_b120 h x1 = some (r, h')) : EvB ω N_Cy_clause 4 (QB (some (iV r)) z h') z h 120 [none, some (aV ω x1), none] [] := by
  unfold Cy_clause_b120 at hL
  refine ev_aload_n (pc := 120) (i := 1) dX0_clause_120 rfl rfl ?_
  obtain ⟨hs20, hL⟩ := cC_un hL
  obtain ⟨r21, h22, hc23, hL⟩ := cl_un hL
  refine evB_callV_I (pc := 121) (M_Tp_fail hc23) dX0_clause_121 mt_Tp_fail st_Tp_fail ml_Cy_53 hs20 (by decide) ⟨_, rfl, rfl⟩ (Nat.le_of_ble_eq_true rfl) rfl rfl (Nat.le_trans sm_z (by decide)) ?_
  exact evB_zret (pc := 124) dX0_clause_124 rfl rfl hL
set_option maxHeartbeats 1000000 in
set_option maxRecDepth 100000 in
theorem KCy_clause_b77 {ω : Wd} {z : Nat → Prop}  {h h' : Hp} {x0 x1 x2 r : Int}  (hL : Cy_clause_b77 h x0 x1 x2 = some (r, h')) : EvB ω N_Cy_clause 4 (QB (some (iV r)) z h') z h 77 [some (aV ω x0), some (aV ω x1), some (iV x2)] [] := by
  unfold Cy_clause_b77 at hL
  refine ev_iload_n (pc := 77) (i := 2) dX0_clause_77 rfl rfl ?_
  refine ev_bipush (pc := 78) dX0_clause_78 (by decide) ?_
  refine ev_icmp_ne (pc := 80) (tgt := 120) dX0_clause_80 rfl hL rfl (fun hL => ?_) (fun hL => ?_)
  · refine ev_aload_n (pc := 83) (i := 0) dX0_clause_83 rfl rfl ?_
    obtain ⟨hs15, hL⟩ := cC_un hL
    refine ev_get (pc := 84) (c9 := 0) (k9 := 5) dX0_clause_84 fl_Cy_29 (by decide) hs15 gv0_5 ?_
    refine ev_bipush (pc := 87) dX0_clause_87 (by decide) ?_
    refine ev_icmp_ge (pc := 89) (tgt := 120) dX0_clause_89 rfl hL rfl (fun hL => ?_) (fun hL => ?_)
    · refine ev_aload_n (pc := 92) (i := 0) dX0_clause_92 rfl rfl ?_
      refine ev_dup (pc := 93) dX0_clause_93 (cat_aV _ _) ?_
      refine ev_get (pc := 94) (c9 := 0) (k9 := 5) dX0_clause_94 fl_Cy_29 (by decide) hs15 gv0_5 ?_
      refine ev_iconst (pc := 97) dX0_clause_97 ?_
      refine ev_iadd (pc := 98) dX0_clause_98 ?_
      refine evB_putI (pc := 99) (c9 := 0) (k9 := 5) (kI := 5) dX0_clause_99 fl_Cy_29 hs15 (by decide) (fun q hq => by cases hq; rfl) rfl rfl rfl ?_
      refine ev_puG hL (fun h16 hL => ?_)
      refine ev_aload_n (pc := 102) (i := 1) dX0_clause_102 rfl rfl ?_
      refine ev_iconst (pc := 103) dX0_clause_103 ?_
      refine ev_aload_n (pc := 104) (i := 0) dX0_clause_104 rfl rfl ?_
      refine ev_get (pc := 105) (c9 := 0) (k9 := 2) dX0_clause_105 fl_Cy_18 (by decide) hs15 (gv0_2 hs15) ?_
      refine ev_iconst (pc := 108) dX0_clause_108 ?_
      refine ev_aload_n (pc := 109) (i := 0) dX0_clause_109 rfl rfl ?_
      refine ev_get (pc := 110) (c9 := 0) (k9 := 5) dX0_clause_110 fl_Cy_29 (by decide) hs15 gv0_5 ?_
      refine ev_iconst (pc := 113) dX0_clause_113 ?_
      refine ev_isub (pc := 114) dX0_clause_114 ?_
      refine ev_imul (pc := 115) dX0_clause_115 ?_
      obtain ⟨r17, h18, hc19, hL⟩ := cl_un hL
      refine evB_callS_I (pc := 116) (M_Cy_items hc19) dX0_clause_116 mt_Cy_items st_Cy_items ml_Cy_67 (Nat.le_of_ble_eq_true rfl) rfl rfl (Nat.le_trans sm_z (by decide)) ?_
      exact evB_zret (pc := 119) dX0_clause_119 rfl rfl hL
    · exact ev_le (lvle_n (lvle_s (lvle_n lvle_z))) (KCy_clause_b120  hL)
  · exact ev_le (lvle_n (lvle_s (lvle_n lvle_z))) (KCy_clause_b120  hL)
set_option maxHeartbeats 1000000 in
set_option maxRecDepth 100000 in
theorem KCy_clause_b34 {ω : Wd} {z : Nat → Prop}  {h h' : Hp} {x0 x1 x2 r : Int}  (hL : Cy_clause_b34 h x0 x1 x2 = some (r, h')) : EvB ω N_Cy_clause 4 (QB (some (iV r)) z h') z h 34 [some (aV ω x0), some (aV ω x1), some (iV x2)] [] := by
  unfold Cy_clause_b34 at hL
  refine ev_iload_n (pc := 34) (i := 2) dX0_clause_34 rfl rfl ?_
  refine ev_bipush (pc := 35) dX0_clause_35 (by decide) ?_
  refine ev_icmp_ne (pc := 37) (tgt := 77) dX0_clause_37 rfl hL rfl (fun hL => ?_) (fun hL => ?_)
  · refine ev_aload_n (pc := 40) (i := 0) dX0_clause_40 rfl rfl ?_
    obtain ⟨hs10, hL⟩ := cC_un hL
    refine ev_get (pc := 41) (c9 := 0) (k9 := 4) dX0_clause_41 fl_Cy_25 (by decide) hs10 gv0_4 ?_
    refine ev_bipush (pc := 44) dX0_clause_44 (by decide) ?_
    refine ev_icmp_ge (pc := 46) (tgt := 77) dX0_clause_46 rfl hL rfl (fun hL => ?_) (fun hL => ?_)
    · refine ev_aload_n (pc := 49) (i := 0) dX0_clause_49 rfl rfl ?_
      refine ev_dup (pc := 50) dX0_clause_50 (cat_aV _ _) ?_
      refine ev_get (pc := 51) (c9 := 0) (k9 := 4) dX0_clause_51 fl_Cy_25 (by decide) hs10 gv0_4 ?_
      refine ev_iconst (pc := 54) dX0_clause_54 ?_
      refine ev_iadd (pc := 55) dX0_clause_55 ?_
      refine evB_putI (pc := 56) (c9 := 0) (k9 := 4) (kI := 4) dX0_clause_56 fl_Cy_25 hs10 (by decide) (fun q hq => by cases hq; rfl) rfl rfl rfl ?_
      refine ev_puG hL (fun h11 hL => ?_)
      refine ev_aload_n (pc := 59) (i := 1) dX0_clause_59 rfl rfl ?_
      refine ev_iconst (pc := 60) dX0_clause_60 ?_
      refine ev_aload_n (pc := 61) (i := 0) dX0_clause_61 rfl rfl ?_
      refine ev_get (pc := 62) (c9 := 0) (k9 := 1) dX0_clause_62 fl_Cy_15 (by decide) hs10 (gv0_1 hs10) ?_
      refine ev_iconst (pc := 65) dX0_clause_65 ?_
      refine ev_aload_n (pc := 66) (i := 0) dX0_clause_66 rfl rfl ?_
      refine ev_get (pc := 67) (c9 := 0) (k9 := 4) dX0_clause_67 fl_Cy_25 (by decide) hs10 gv0_4 ?_
      refine ev_iconst (pc := 70) dX0_clause_70 ?_
      refine ev_isub (pc := 71) dX0_clause_71 ?_
      refine ev_imul (pc := 72) dX0_clause_72 ?_
      obtain ⟨r12, h13, hc14, hL⟩ := cl_un hL
      refine evB_callS_I (pc := 73) (M_Cy_items hc14) dX0_clause_73 mt_Cy_items st_Cy_items ml_Cy_67 (Nat.le_of_ble_eq_true rfl) rfl rfl (Nat.le_trans sm_z (by decide)) ?_
      exact evB_zret (pc := 76) dX0_clause_76 rfl rfl hL
    · exact ev_le (lvle_s (lvle_s (lvle_s lvle_z))) (KCy_clause_b77  hL)
  · exact ev_le (lvle_s (lvle_s (lvle_s lvle_z))) (KCy_clause_b77  hL)
set_option maxHeartbeats 1000000 in
set_option maxRecDepth 100000 in
theorem M_Cy_clause {ω : Wd} {z : Nat → Prop} {h h' : Hp} {a0 a1 r : Int}  (hL : Cy_clause h a0 a1 = some (r, h')) : CtB ω N_Cy_clause 4 [aV ω a0, aV ω a1] z h (some (iV r)) h' := by
  unfold Cy_clause at hL
  refine Ct_of (lv := [some (aV ω a0), some (aV ω a1), none]) (by decide) (Nat.le_trans (sl_1 (cat_aV _ _) (sl_1 (cat_aV _ _) sl_z)) (Nat.le_of_ble_eq_true rfl)) (la_1 (cat_aV _ _) (la_1 (cat_aV _ _) (la_n la_z))) ?_
  refine ev_aload_n (pc := 0) (i := 1) dX0_clause_0 rfl rfl ?_
  obtain ⟨hs1, hL⟩ := cC_un hL
  obtain ⟨r2, h3, hc4, hL⟩ := cl_un hL
  refine evB_callV_I (pc := 1) (M_Tp_next hc4) dX0_clause_1 mt_Tp_next st_Tp_next ml_Cy_45 hs1 (by decide) ⟨_, rfl, rfl⟩ (Nat.le_of_ble_eq_true rfl) rfl rfl (Nat.le_trans sm_z (by decide)) ?_
  refine ev_istore_n (pc := 4) (i := 2) dX0_clause_4 rfl (lnl_v (cat_aV _ _) rfl) (Nat.le_of_ble_eq_true rfl) ?_
  refine ev_iload_n (pc := 5) (i := 2) dX0_clause_5 rfl rfl ?_
  refine ev_bipush (pc := 6) dX0_clause_6 (by decide) ?_
  refine ev_icmp_ne (pc := 8) (tgt := 34) dX0_clause_8 rfl hL rfl (fun hL => ?_) (fun hL => ?_)
  · refine ev_aload_n (pc := 11) (i := 0) dX0_clause_11 rfl rfl ?_
    obtain ⟨hs5, hL⟩ := cC_un hL
    refine ev_get (pc := 12) (c9 := 0) (k9 := 3) dX0_clause_12 fl_Cy_21 (by decide) hs5 gv0_3 ?_
    refine ev_if_ne (pc := 15) (tgt := 34) dX0_clause_15 rfl hL rfl (fun hL => ?_) (fun hL => ?_)
    · refine ev_aload_n (pc := 18) (i := 0) dX0_clause_18 rfl rfl ?_
      refine ev_iconst (pc := 19) dX0_clause_19 ?_
      refine evB_putZ (pc := 20) (c9 := 0) (k9 := 3) (kI := 3) dX0_clause_20 fl_Cy_21 hs5 (by decide) (fun q hq => by cases hq; rfl) rfl rfl (by decide) rfl ?_
      refine ev_puG hL (fun h6 hL => ?_)
      refine ev_aload_n (pc := 23) (i := 1) dX0_clause_23 rfl rfl ?_
      refine ev_iconst (pc := 24) dX0_clause_24 ?_
      refine ev_aload_n (pc := 25) (i := 0) dX0_clause_25 rfl rfl ?_
      refine ev_get (pc := 26) (c9 := 0) (k9 := 0) dX0_clause_26 fl_Cy_9 (by decide) hs5 (gv0_0 hs5) ?_
      refine ev_iconst (pc := 29) dX0_clause_29 ?_
      obtain ⟨r7, h8, hc9, hL⟩ := cl_un hL
      refine evB_callS_I (pc := 30) (M_Cy_items hc9) dX0_clause_30 mt_Cy_items st_Cy_items ml_Cy_67 (Nat.le_of_ble_eq_true rfl) rfl rfl (Nat.le_trans sm_z (by decide)) ?_
      exact evB_zret (pc := 33) dX0_clause_33 rfl rfl hL
    · exact ev_le (lvle_s (lvle_s (lvle_s lvle_z))) (KCy_clause_b34  hL)
  · exact ev_le (lvle_s (lvle_s (lvle_s lvle_z))) (KCy_clause_b34  hL)
set_option maxHeartbeats 1000000 in
set_option maxRecDepth 100000 in
theorem KCy_isWhole_b16_body {ω : Wd} {z : Nat → Prop}  {k16 : Hp × Int × Int × Int → Option (Int × Hp)} {h h' : Hp} {x0 x1 x2 r : Int}  (hk16 : ∀ s o, k16 s = some o → EvB ω N_Cy_isWhole 3 (QB (some (iV o.1)) z o.2) z s.1 16 [some (aV ω s.2.1), some (iV s.2.2.1), some (iV s.2.2.2)] []) (hL : Cy_isWhole_b16_body  k16 h x0 x1 x2 = some (r, h')) : EvB ω N_Cy_isWhole 3 (QB (some (iV r)) z h') z h 16 [some (aV ω x0), some (iV x1), some (iV x2)] [] := by
  unfold Cy_isWhole_b16_body at hL
  refine ev_iload_n (pc := 16) (i := 2) dX0_isWhole_16 rfl rfl ?_
  refine ev_aload_n (pc := 17) (i := 0) dX0_isWhole_17 rfl rfl ?_
  obtain ⟨hs2, hL⟩ := cC_un hL
  refine ev_get (pc := 18) (c9 := 0) (k9 := 5) dX0_isWhole_18 fl_Cy_29 (by decide) hs2 gv0_5 ?_
  refine ev_icmp_ge (pc := 21) (tgt := 77) dX0_isWhole_21 rfl hL rfl (fun hL => ?_) (fun hL => ?_)
  · refine ev_iload_n (pc := 24) (i := 1) dX0_isWhole_24 rfl rfl ?_
    refine ev_if_eq (pc := 25) (tgt := 69) dX0_isWhole_25 rfl hL rfl (fun hL => ?_) (fun hL => ?_)
    · refine ev_iconst (pc := 69) dX0_isWhole_69 ?_
      refine ev_istore_n (pc := 70) (i := 1) dX0_isWhole_70 rfl (lnl_v (cat_aV _ _) rfl) (Nat.le_of_ble_eq_true rfl) ?_
      refine ev_iinc (pc := 71) dX0_isWhole_71 rfl (lnl_v rfl rfl) (Nat.le_of_ble_eq_true rfl) ?_
      refine ev_goto (pc := 74) (tgt := 16) dX0_isWhole_74 rfl ?_
      exact ev_le (lvle_s (lvle_s (lvle_s lvle_z))) (hk16 _ _ hL)
    · refine ev_aload_n (pc := 28) (i := 0) dX0_isWhole_28 rfl rfl ?_
      refine ev_iload_n (pc := 29) (i := 2) dX0_isWhole_29 rfl rfl ?_
      obtain ⟨r3, h4, hc5, hL⟩ := cl_un hL
      refine evB_callV_I (pc := 30) (M_Cy_whoOf hc5) dX0_isWhole_30 mt_Cy_whoOf st_Cy_whoOf ml_Cy_60 hs2 (by decide) ⟨_, rfl, rfl⟩ (Nat.le_of_ble_eq_true rfl) rfl rfl (Nat.le_trans sm_z (by decide)) ?_
      refine ev_aload_n (pc := 33) (i := 0) dX0_isWhole_33 rfl rfl ?_
      refine ev_get (pc := 34) (c9 := 0) (k9 := 4) dX0_isWhole_34 fl_Cy_25 (by decide) hs2 gv0_4 ?_
      refine ev_icmp_ge (pc := 37) (tgt := 69) dX0_isWhole_37 rfl hL rfl (fun hL => ?_) (fun hL => ?_)
      · refine ev_aload_n (pc := 40) (i := 0) dX0_isWhole_40 rfl rfl ?_
        refine ev_iload_n (pc := 41) (i := 2) dX0_isWhole_41 rfl rfl ?_
        obtain ⟨r6, h7, hc8, hL⟩ := cl_un hL
        refine evB_callV_I (pc := 42) (M_Cy_whomOf hc8) dX0_isWhole_42 mt_Cy_whomOf st_Cy_whomOf ml_Cy_64 hs2 (by decide) ⟨_, rfl, rfl⟩ (Nat.le_of_ble_eq_true rfl) rfl rfl (Nat.le_trans sm_z (by decide)) ?_
        refine ev_aload_n (pc := 45) (i := 0) dX0_isWhole_45 rfl rfl ?_
        refine ev_get (pc := 46) (c9 := 0) (k9 := 4) dX0_isWhole_46 fl_Cy_25 (by decide) hs2 gv0_4 ?_
        refine ev_icmp_ge (pc := 49) (tgt := 69) dX0_isWhole_49 rfl hL rfl (fun hL => ?_) (fun hL => ?_)
        · refine ev_aload_n (pc := 52) (i := 0) dX0_isWhole_52 rfl rfl ?_
          refine ev_iload_n (pc := 53) (i := 2) dX0_isWhole_53 rfl rfl ?_
          obtain ⟨r9, h10, hc11, hL⟩ := cl_un hL
          refine evB_callV_I (pc := 54) (M_Cy_whoOf hc11) dX0_isWhole_54 mt_Cy_whoOf st_Cy_whoOf ml_Cy_60 hs2 (by decide) ⟨_, rfl, rfl⟩ (Nat.le_of_ble_eq_true rfl) rfl rfl (Nat.le_trans sm_z (by decide)) ?_
          refine ev_aload_n (pc := 57) (i := 0) dX0_isWhole_57 rfl rfl ?_
          refine ev_iload_n (pc := 58) (i := 2) dX0_isWhole_58 rfl rfl ?_
          obtain ⟨r12, h13, hc14, hL⟩ := cl_un hL
          refine evB_callV_I (pc := 59) (M_Cy_whomOf hc14) dX0_isWhole_59 mt_Cy_whomOf st_Cy_whomOf ml_Cy_64 hs2 (by decide) ⟨_, rfl, rfl⟩ (Nat.le_of_ble_eq_true rfl) rfl rfl (Nat.le_trans (sm_1 (cat_iV _) sm_z) (by decide)) ?_
          refine ev_icmp_eq (pc := 62) (tgt := 69) dX0_isWhole_62 rfl hL rfl (fun hL => ?_) (fun hL => ?_)
          · refine ev_iconst (pc := 69) dX0_isWhole_69 ?_
            refine ev_istore_n (pc := 70) (i := 1) dX0_isWhole_70 rfl (lnl_v (cat_aV _ _) rfl) (Nat.le_of_ble_eq_true rfl) ?_
            refine ev_iinc (pc := 71) dX0_isWhole_71 rfl (lnl_v rfl rfl) (Nat.le_of_ble_eq_true rfl) ?_
            refine ev_goto (pc := 74) (tgt := 16) dX0_isWhole_74 rfl ?_
            exact ev_le (lvle_s (lvle_s (lvle_s lvle_z))) (hk16 _ _ hL)
          · refine ev_iconst (pc := 65) dX0_isWhole_65 ?_
            refine ev_goto (pc := 66) (tgt := 70) dX0_isWhole_66 rfl ?_
            refine ev_istore_n (pc := 70) (i := 1) dX0_isWhole_70 rfl (lnl_v (cat_aV _ _) rfl) (Nat.le_of_ble_eq_true rfl) ?_
            refine ev_iinc (pc := 71) dX0_isWhole_71 rfl (lnl_v rfl rfl) (Nat.le_of_ble_eq_true rfl) ?_
            refine ev_goto (pc := 74) (tgt := 16) dX0_isWhole_74 rfl ?_
            exact ev_le (lvle_s (lvle_s (lvle_s lvle_z))) (hk16 _ _ hL)
        · refine ev_iconst (pc := 69) dX0_isWhole_69 ?_
          refine ev_istore_n (pc := 70) (i := 1) dX0_isWhole_70 rfl (lnl_v (cat_aV _ _) rfl) (Nat.le_of_ble_eq_true rfl) ?_
          refine ev_iinc (pc := 71) dX0_isWhole_71 rfl (lnl_v rfl rfl) (Nat.le_of_ble_eq_true rfl) ?_
          refine ev_goto (pc := 74) (tgt := 16) dX0_isWhole_74 rfl ?_
          exact ev_le (lvle_s (lvle_s (lvle_s lvle_z))) (hk16 _ _ hL)
      · refine ev_iconst (pc := 69) dX0_isWhole_69 ?_
        refine ev_istore_n (pc := 70) (i := 1) dX0_isWhole_70 rfl (lnl_v (cat_aV _ _) rfl) (Nat.le_of_ble_eq_true rfl) ?_
        refine ev_iinc (pc := 71) dX0_isWhole_71 rfl (lnl_v rfl rfl) (Nat.le_of_ble_eq_true rfl) ?_
        refine ev_goto (pc := 74) (tgt := 16) dX0_isWhole_74 rfl ?_
        exact ev_le (lvle_s (lvle_s (lvle_s lvle_z))) (hk16 _ _ hL)
  · refine ev_iload_n (pc := 77) (i := 1) dX0_isWhole_77 rfl rfl ?_
    exact evB_zret (pc := 78) dX0_isWhole_78 rfl rfl hL
set_option maxHeartbeats 1000000 in
set_option maxRecDepth 100000 in
theorem KCy_isWhole_b16 {ω : Wd} {z : Nat → Prop}  {h h' : Hp} {x0 x1 x2 r : Int}  (hL : Cy_isWhole_b16 h x0 x1 x2 = some (r, h')) : EvB ω N_Cy_isWhole 3 (QB (some (iV r)) z h') z h 16 [some (aV ω x0), some (iV x1), some (iV x2)] [] := by
  unfold Cy_isWhole_b16 at hL
  refine itr_link (P := fun (s : Hp × Int × Int × Int) (o : Int × Hp) => EvB ω N_Cy_isWhole 3 (QB (some (iV o.1)) z o.2) z s.1 16 [some (aV ω s.2.1), some (iV s.2.2.1), some (iV s.2.2.2)] []) ?_ _ _ _ hL
  intro k hk s o h9
  have h10 := KCy_isWhole_b16_body (ω := ω) (z := z) (k16 := k) (h := s.1) (x0 := s.2.1) (x1 := s.2.2.1) (x2 := s.2.2.2) (r := o.1) (h' := o.2) 
  exact h10 hk h9
set_option maxHeartbeats 1000000 in
set_option maxRecDepth 100000 in
theorem M_Cy_isWhole {ω : Wd} {z : Nat → Prop} {h h' : Hp} {a0 r : Int}  (hL : Cy_isWhole h a0 = some (r, h')) : CtB ω N_Cy_isWhole 3 [aV ω a0] z h (some (iV r)) h' := by
  unfold Cy_isWhole at hL
  refine Ct_of (lv := [some (aV ω a0), none, none]) (by decide) (Nat.le_trans (sl_1 (cat_aV _ _) sl_z) (Nat.le_of_ble_eq_true rfl)) (la_1 (cat_aV _ _) (la_n (la_n la_z))) ?_
  refine ev_aload_n (pc := 0) (i := 0) dX0_isWhole_0 rfl rfl ?_
  obtain ⟨hs1, hL⟩ := cC_un hL
  refine ev_get (pc := 1) (c9 := 0) (k9 := 4) dX0_isWhole_1 fl_Cy_25 (by decide) hs1 gv0_4 ?_
  refine ev_iconst (pc := 4) dX0_isWhole_4 ?_
  refine ev_icmp_lt (pc := 5) (tgt := 12) dX0_isWhole_5 rfl hL rfl (fun hL => ?_) (fun hL => ?_)
  · refine ev_iconst (pc := 12) dX0_isWhole_12 ?_
    refine ev_istore_n (pc := 13) (i := 1) dX0_isWhole_13 rfl (lnl_v (cat_aV _ _) rfl) (Nat.le_of_ble_eq_true rfl) ?_
    refine ev_iconst (pc := 14) dX0_isWhole_14 ?_
    refine ev_istore_n (pc := 15) (i := 2) dX0_isWhole_15 rfl (lnl_v rfl rfl) (Nat.le_of_ble_eq_true rfl) ?_
    exact ev_le (lvle_s (lvle_s (lvle_s lvle_z))) (KCy_isWhole_b16  hL)
  · refine ev_iconst (pc := 8) dX0_isWhole_8 ?_
    refine ev_goto (pc := 9) (tgt := 13) dX0_isWhole_9 rfl ?_
    refine ev_istore_n (pc := 13) (i := 1) dX0_isWhole_13 rfl (lnl_v (cat_aV _ _) rfl) (Nat.le_of_ble_eq_true rfl) ?_
    refine ev_iconst (pc := 14) dX0_isWhole_14 ?_
    refine ev_istore_n (pc := 15) (i := 2) dX0_isWhole_15 rfl (lnl_v rfl rfl) (Nat.le_of_ble_eq_true rfl) ?_
    exact ev_le (lvle_s (lvle_s (lvle_s lvle_z))) (KCy_isWhole_b16  hL)
set_option maxHeartbeats 1000000 in
set_option maxRecDepth 100000 in
theorem M_Tp_need {ω : Wd} {z : Nat → Prop} {h h' : Hp} {a0 a1 r : Int}  (hL : Tp_need h a0 a1 = some (r, h')) : CtB ω N_Tp_need 2 [aV ω a0, iV a1] z h (some (iV r)) h' := by
  unfold Tp_need at hL
  refine Ct_of (lv := [some (aV ω a0), some (iV a1)]) (by decide) (Nat.le_trans (sl_1 (cat_aV _ _) (sl_1 (cat_iV _) sl_z)) (Nat.le_of_ble_eq_true rfl)) (la_1 (cat_aV _ _) (la_1 (cat_iV _) la_z)) ?_
  refine ev_aload_n (pc := 0) (i := 0) dX8_need_0 rfl rfl ?_
  obtain ⟨hs1, hL⟩ := cC_un hL
  obtain ⟨r2, h3, hc4, hL⟩ := cl_un hL
  refine evB_callV_I (pc := 1) (M_Tp_next hc4) dX8_need_1 mt_Tp_next st_Tp_next ml_Tp_29 hs1 (by decide) ⟨_, rfl, rfl⟩ (Nat.le_of_ble_eq_true rfl) rfl rfl (Nat.le_trans sm_z (by decide)) ?_
  refine ev_iload_n (pc := 4) (i := 1) dX8_need_4 rfl rfl ?_
  refine ev_icmp_eq (pc := 5) (tgt := 13) dX8_need_5 rfl hL rfl (fun hL => ?_) (fun hL => ?_)
  · refine ev_aload_n (pc := 13) (i := 0) dX8_need_13 rfl rfl ?_
    refine ev_dup (pc := 14) dX8_need_14 (cat_aV _ _) ?_
    refine ev_get (pc := 15) (c9 := 8) (k9 := 2) dX8_need_15 fl_Tp_19 (by decide) hs1 gv8_2 ?_
    refine ev_iconst (pc := 18) dX8_need_18 ?_
    refine ev_iadd (pc := 19) dX8_need_19 ?_
    refine evB_putI (pc := 20) (c9 := 8) (k9 := 2) (kI := 2) dX8_need_20 fl_Tp_19 hs1 (by decide) (fun q hq => by cases hq; rfl) rfl rfl rfl ?_
    refine ev_puG hL (fun h5 hL => ?_)
    refine ev_iconst (pc := 23) dX8_need_23 ?_
    exact evB_zret (pc := 24) dX8_need_24 rfl rfl hL
  · refine ev_aload_n (pc := 8) (i := 0) dX8_need_8 rfl rfl ?_
    obtain ⟨r6, h7, hc8, hL⟩ := cl_un hL
    refine evB_callV_I (pc := 9) (M_Tp_fail hc8) dX8_need_9 mt_Tp_fail st_Tp_fail ml_Tp_33 hs1 (by decide) ⟨_, rfl, rfl⟩ (Nat.le_of_ble_eq_true rfl) rfl rfl (Nat.le_trans sm_z (by decide)) ?_
    exact evB_zret (pc := 12) dX8_need_12 rfl rfl hL
set_option maxHeartbeats 1000000 in
set_option maxRecDepth 100000 in
theorem M_Tp_start {ω : Wd} {z : Nat → Prop} {h h' : Hp} {a0 r : Int}  (hL : Tp_start h a0 = some (r, h')) : CtB ω N_Tp_start 1 [aV ω a0] z h none h' := by
  unfold Tp_start at hL
  refine Ct_of (lv := [some (aV ω a0)]) (by decide) (Nat.le_trans (sl_1 (cat_aV _ _) sl_z) (Nat.le_of_ble_eq_true rfl)) (la_1 (cat_aV _ _) la_z) ?_
  refine ev_aload_n (pc := 0) (i := 0) dX8_start_0 rfl rfl ?_
  refine ev_iconst (pc := 1) dX8_start_1 ?_
  obtain ⟨hs1, hL⟩ := cC_un hL
  refine evB_putI (pc := 2) (c9 := 8) (k9 := 2) (kI := 2) dX8_start_2 fl_Tp_19 hs1 (by decide) (fun q hq => by cases hq; rfl) rfl rfl rfl ?_
  refine ev_puG hL (fun h2 hL => ?_)
  refine ev_aload_n (pc := 5) (i := 0) dX8_start_5 rfl rfl ?_
  refine ev_iconst (pc := 6) dX8_start_6 ?_
  refine evB_putI (pc := 7) (c9 := 8) (k9 := 3) (kI := 3) dX8_start_7 fl_Tp_22 hs1 (by decide) (fun q hq => by cases hq; rfl) rfl rfl rfl ?_
  refine ev_puG hL (fun h3 hL => ?_)
  exact evB_vret (pc := 10) dX8_start_10 rfl hL
set_option maxHeartbeats 1000000 in
set_option maxRecDepth 100000 in
theorem KCy_read_b30_body {ω : Wd} {z : Nat → Prop}  {k30 : Hp × Int × Int × Int → Option (Int × Hp)} {h h' : Hp} {x0 x1 x2 r : Int}  (hk30 : ∀ s o, k30 s = some o → EvB ω N_Cy_read 5 (QB (some (iV o.1)) z o.2) z s.1 30 [some (aV ω s.2.1), some (aV ω s.2.2.1), some (iV s.2.2.2)] []) (hL : Cy_read_b30_body  k30 h x0 x1 x2 = some (r, h')) : EvB ω N_Cy_read 5 (QB (some (iV r)) z h') z h 30 [some (aV ω x0), some (aV ω x1), some (iV x2)] [] := by
  unfold Cy_read_b30_body at hL
  refine ev_iload_n (pc := 30) (i := 2) dX0_read_30 rfl rfl ?_
  refine ev_sipush (pc := 31) dX0_read_31 (by decide) ?_
  refine ev_icmp_gt (pc := 34) (tgt := 91) dX0_read_34 rfl hL rfl (fun hL => ?_) (fun hL => ?_)
  · refine ev_aload_n (pc := 91) (i := 1) dX0_read_91 rfl rfl ?_
    obtain ⟨hs12, hL⟩ := cC_un hL
    obtain ⟨r13, h14, hc15, hL⟩ := cl_un hL
    refine evB_callV_I (pc := 92) (M_Tp_fail hc15) dX0_read_92 mt_Tp_fail st_Tp_fail ml_Cy_53 hs12 (by decide) ⟨_, rfl, rfl⟩ (Nat.le_of_ble_eq_true rfl) rfl rfl (Nat.le_trans sm_z (by decide)) ?_
    exact evB_zret (pc := 95) dX0_read_95 rfl rfl hL
  · refine ev_aload_n (pc := 37) (i := 0) dX0_read_37 rfl rfl ?_
    refine ev_aload_n (pc := 38) (i := 1) dX0_read_38 rfl rfl ?_
    obtain ⟨hs16, hL⟩ := cC_un hL
    obtain ⟨r17, h18, hc19, hL⟩ := cl_un hL
    refine evB_callV_I (pc := 39) (M_Cy_clause hc19) dX0_read_39 mt_Cy_clause st_Cy_clause ml_Cy_41 hs16 (by decide) ⟨_, rfl, rfl⟩ (Nat.le_of_ble_eq_true rfl) rfl rfl (Nat.le_trans sm_z (by decide)) ?_
    refine ev_if_ne (pc := 42) (tgt := 47) dX0_read_42 rfl hL rfl (fun hL => ?_) (fun hL => ?_)
    · refine ev_iconst (pc := 45) dX0_read_45 ?_
      exact evB_zret (pc := 46) dX0_read_46 rfl rfl hL
    · refine ev_aload_n (pc := 47) (i := 1) dX0_read_47 rfl rfl ?_
      obtain ⟨hs20, hL⟩ := cC_un hL
      obtain ⟨r21, h22, hc23, hL⟩ := cl_un hL
      refine evB_callV_I (pc := 48) (M_Tp_next hc23) dX0_read_48 mt_Tp_next st_Tp_next ml_Cy_45 hs20 (by decide) ⟨_, rfl, rfl⟩ (Nat.le_of_ble_eq_true rfl) rfl rfl (Nat.le_trans sm_z (by decide)) ?_
      refine ev_if_ne (pc := 51) (tgt := 74) dX0_read_51 rfl hL rfl (fun hL => ?_) (fun hL => ?_)
      · refine ev_aload_n (pc := 54) (i := 0) dX0_read_54 rfl rfl ?_
        obtain ⟨r24, h25, hc26, hL⟩ := cl_un hL
        refine evB_callV_I (pc := 55) (M_Cy_isWhole hc26) dX0_read_55 mt_Cy_isWhole st_Cy_isWhole ml_Cy_49 hs16 (by decide) ⟨_, rfl, rfl⟩ (Nat.le_of_ble_eq_true rfl) rfl rfl (Nat.le_trans sm_z (by decide)) ?_
        refine ev_if_ne (pc := 58) (tgt := 68) dX0_read_58 rfl hL rfl (fun hL => ?_) (fun hL => ?_)
        · refine ev_aload_n (pc := 61) (i := 1) dX0_read_61 rfl rfl ?_
          obtain ⟨r27, h28, hc29, hL⟩ := cl_un hL
          refine evB_callV_I (pc := 62) (M_Tp_fail hc29) dX0_read_62 mt_Tp_fail st_Tp_fail ml_Cy_53 hs20 (by decide) ⟨_, rfl, rfl⟩ (Nat.le_of_ble_eq_true rfl) rfl rfl (Nat.le_trans sm_z (by decide)) ?_
          refine ev_if_eq (pc := 65) (tgt := 72) dX0_read_65 rfl hL rfl (fun hL => ?_) (fun hL => ?_)
          · refine ev_iconst (pc := 72) dX0_read_72 ?_
            exact evB_zret (pc := 73) dX0_read_73 rfl rfl hL
          · refine ev_iconst (pc := 68) dX0_read_68 ?_
            refine ev_goto (pc := 69) (tgt := 73) dX0_read_69 rfl ?_
            exact evB_zret (pc := 73) dX0_read_73 rfl rfl hL
        · refine ev_iconst (pc := 68) dX0_read_68 ?_
          refine ev_goto (pc := 69) (tgt := 73) dX0_read_69 rfl ?_
          exact evB_zret (pc := 73) dX0_read_73 rfl rfl hL
      · refine ev_aload_n (pc := 74) (i := 1) dX0_read_74 rfl rfl ?_
        refine ev_bipush (pc := 75) dX0_read_75 (by decide) ?_
        obtain ⟨r30, h31, hc32, hL⟩ := cl_un hL
        refine evB_callV_I (pc := 77) (M_Tp_need hc32) dX0_read_77 mt_Tp_need st_Tp_need ml_Cy_56 hs20 (by decide) ⟨_, rfl, rfl⟩ (Nat.le_of_ble_eq_true rfl) rfl rfl (Nat.le_trans sm_z (by decide)) ?_
        refine ev_if_ne (pc := 80) (tgt := 85) dX0_read_80 rfl hL rfl (fun hL => ?_) (fun hL => ?_)
        · refine ev_iconst (pc := 83) dX0_read_83 ?_
          exact evB_zret (pc := 84) dX0_read_84 rfl rfl hL
        · refine ev_iinc (pc := 85) dX0_read_85 rfl (lnl_v (cat_aV _ _) rfl) (Nat.le_of_ble_eq_true rfl) ?_
          refine ev_goto (pc := 88) (tgt := 30) dX0_read_88 rfl ?_
          exact ev_le (lvle_s (lvle_s (lvle_s lvle_z))) (hk30 _ _ hL)
set_option maxHeartbeats 1000000 in
set_option maxRecDepth 100000 in
theorem KCy_read_b30 {ω : Wd} {z : Nat → Prop}  {h h' : Hp} {x0 x1 x2 r : Int}  (hL : Cy_read_b30 h x0 x1 x2 = some (r, h')) : EvB ω N_Cy_read 5 (QB (some (iV r)) z h') z h 30 [some (aV ω x0), some (aV ω x1), some (iV x2)] [] := by
  unfold Cy_read_b30 at hL
  refine itr_link (P := fun (s : Hp × Int × Int × Int) (o : Int × Hp) => EvB ω N_Cy_read 5 (QB (some (iV o.1)) z o.2) z s.1 30 [some (aV ω s.2.1), some (aV ω s.2.2.1), some (iV s.2.2.2)] []) ?_ _ _ _ hL
  intro k hk s o h9
  have h10 := KCy_read_b30_body (ω := ω) (z := z) (k30 := k) (h := s.1) (x0 := s.2.1) (x1 := s.2.2.1) (x2 := s.2.2.2) (r := o.1) (h' := o.2) 
  exact h10 hk h9
set_option maxHeartbeats 1000000 in
set_option maxRecDepth 100000 in
theorem M_Cy_read {ω : Wd} {z : Nat → Prop} {h h' : Hp} {a0 a1 r : Int}  (hL : Cy_read h a0 a1 = some (r, h')) : CtB ω N_Cy_read 5 [aV ω a0, aV ω a1] z h (some (iV r)) h' := by
  unfold Cy_read at hL
  refine Ct_of (lv := [some (aV ω a0), some (aV ω a1), none]) (by decide) (Nat.le_trans (sl_1 (cat_aV _ _) (sl_1 (cat_aV _ _) sl_z)) (Nat.le_of_ble_eq_true rfl)) (la_1 (cat_aV _ _) (la_1 (cat_aV _ _) (la_n la_z))) ?_
  refine ev_aload_n (pc := 0) (i := 0) dX0_read_0 rfl rfl ?_
  refine ev_iconst (pc := 1) dX0_read_1 ?_
  obtain ⟨hs1, hL⟩ := cC_un hL
  refine evB_putZ (pc := 2) (c9 := 0) (k9 := 3) (kI := 3) dX0_read_2 fl_Cy_21 hs1 (by decide) (fun q hq => by cases hq; rfl) rfl rfl (by decide) rfl ?_
  refine ev_puG hL (fun h2 hL => ?_)
  refine ev_aload_n (pc := 5) (i := 0) dX0_read_5 rfl rfl ?_
  refine ev_iconst (pc := 6) dX0_read_6 ?_
  refine evB_putI (pc := 7) (c9 := 0) (k9 := 4) (kI := 4) dX0_read_7 fl_Cy_25 hs1 (by decide) (fun q hq => by cases hq; rfl) rfl rfl rfl ?_
  refine ev_puG hL (fun h3 hL => ?_)
  refine ev_aload_n (pc := 10) (i := 0) dX0_read_10 rfl rfl ?_
  refine ev_iconst (pc := 11) dX0_read_11 ?_
  refine evB_putI (pc := 12) (c9 := 0) (k9 := 5) (kI := 5) dX0_read_12 fl_Cy_29 hs1 (by decide) (fun q hq => by cases hq; rfl) rfl rfl rfl ?_
  refine ev_puG hL (fun h4 hL => ?_)
  refine ev_iconst (pc := 15) dX0_read_15 ?_
  refine ev_aload_n (pc := 16) (i := 0) dX0_read_16 rfl rfl ?_
  refine ev_get (pc := 17) (c9 := 0) (k9 := 0) dX0_read_17 fl_Cy_9 (by decide) hs1 (gv0_0 hs1) ?_
  refine ev_iconst (pc := 20) dX0_read_20 ?_
  obtain ⟨r5, h6, hc7, hL⟩ := cl_un hL
  refine evB_callS_V (pc := 21) (M_Cy_fillIn hc7) dX0_read_21 mt_Cy_fillIn st_Cy_fillIn ml_Cy_32 (Nat.le_of_ble_eq_true rfl) rfl rfl (Nat.le_trans sm_z (by decide)) ?_
  refine ev_aload_n (pc := 24) (i := 1) dX0_read_24 rfl rfl ?_
  obtain ⟨hs8, hL⟩ := cC_un hL
  obtain ⟨r9, h10, hc11, hL⟩ := cl_un hL
  refine evB_callV_V (pc := 25) (M_Tp_start hc11) dX0_read_25 mt_Tp_start st_Tp_start ml_Cy_36 hs8 (by decide) ⟨_, rfl, rfl⟩ (Nat.le_of_ble_eq_true rfl) rfl rfl (Nat.le_trans sm_z (by decide)) ?_
  refine ev_iconst (pc := 28) dX0_read_28 ?_
  refine ev_istore_n (pc := 29) (i := 2) dX0_read_29 rfl (lnl_v (cat_aV _ _) rfl) (Nat.le_of_ble_eq_true rfl) ?_
  exact ev_le (lvle_s (lvle_s (lvle_s lvle_z))) (KCy_read_b30  hL)
set_option maxHeartbeats 1000000 in
set_option maxRecDepth 100000 in
theorem M_Lw_emit {ω : Wd} {z : Nat → Prop} {h h' : Hp} {a0 a1 r : Int}  (hL : Lw_emit h a0 a1 = some (r, h')) : CtB ω N_Lw_emit 2 [aV ω a0, iV a1] z h none h' := by
  unfold Lw_emit at hL
  refine Ct_of (lv := [some (aV ω a0), some (iV a1)]) (by decide) (Nat.le_trans (sl_1 (cat_aV _ _) (sl_1 (cat_iV _) sl_z)) (Nat.le_of_ble_eq_true rfl)) (la_1 (cat_aV _ _) (la_1 (cat_iV _) la_z)) ?_
  refine ev_aload_n (pc := 0) (i := 0) dX2_emit_0 rfl rfl ?_
  obtain ⟨hs1, hL⟩ := cC_un hL
  refine ev_get (pc := 1) (c9 := 2) (k9 := 2) dX2_emit_1 fl_Lw_18 (by decide) hs1 gv2_2 ?_
  refine ev_sipush (pc := 4) dX2_emit_4 (by decide) ?_
  refine ev_icmp_ge (pc := 7) (tgt := 32) dX2_emit_7 rfl hL rfl (fun hL => ?_) (fun hL => ?_)
  · refine ev_aload_n (pc := 10) (i := 0) dX2_emit_10 rfl rfl ?_
    refine ev_get (pc := 11) (c9 := 2) (k9 := 0) dX2_emit_11 fl_Lw_11 (by decide) hs1 (gv2_0 hs1) ?_
    refine ev_aload_n (pc := 14) (i := 0) dX2_emit_14 rfl rfl ?_
    refine ev_get (pc := 15) (c9 := 2) (k9 := 2) dX2_emit_15 fl_Lw_18 (by decide) hs1 gv2_2 ?_
    refine ev_iload_n (pc := 18) (i := 1) dX2_emit_18 rfl rfl ?_
    obtain ⟨r2, h3, hc4, hL⟩ := cl_un hL
    refine evB_callS_V (pc := 19) (M_Cc_put hc4) dX2_emit_19 mt_Cc_put st_Cc_put ml_Lw_103 (Nat.le_of_ble_eq_true rfl) rfl rfl (Nat.le_trans sm_z (by decide)) ?_
    refine ev_aload_n (pc := 22) (i := 0) dX2_emit_22 rfl rfl ?_
    refine ev_dup (pc := 23) dX2_emit_23 (cat_aV _ _) ?_
    refine ev_get (pc := 24) (c9 := 2) (k9 := 2) dX2_emit_24 fl_Lw_18 (by decide) hs1 gv2_2 ?_
    refine ev_iconst (pc := 27) dX2_emit_27 ?_
    refine ev_iadd (pc := 28) dX2_emit_28 ?_
    refine evB_putI (pc := 29) (c9 := 2) (k9 := 2) (kI := 2) dX2_emit_29 fl_Lw_18 hs1 (by decide) (fun q hq => by cases hq; rfl) rfl rfl rfl ?_
    refine ev_puG hL (fun h5 hL => ?_)
    exact evB_vret (pc := 32) dX2_emit_32 rfl hL
  · exact evB_vret (pc := 32) dX2_emit_32 rfl hL
set_option maxHeartbeats 1000000 in
set_option maxRecDepth 100000 in
theorem M_Lw_isComparing {ω : Wd} {z : Nat → Prop} {h h' : Hp} {a0 r : Int}  (hL : Lw_isComparing h a0 = some (r, h')) : CtB ω N_Lw_isComparing 1 [iV a0] z h (some (iV r)) h' := by
  unfold Lw_isComparing at hL
  refine Ct_of (lv := [some (iV a0)]) (by decide) (Nat.le_trans (sl_1 (cat_iV _) sl_z) (Nat.le_of_ble_eq_true rfl)) (la_1 (cat_iV _) la_z) ?_
  refine ev_iload_n (pc := 0) (i := 0) dX2_isComparing_0 rfl rfl ?_
  refine ev_bipush (pc := 1) dX2_isComparing_1 (by decide) ?_
  refine ev_icmp_eq (pc := 3) (tgt := 18) dX2_isComparing_3 rfl hL rfl (fun hL => ?_) (fun hL => ?_)
  · refine ev_iconst (pc := 18) dX2_isComparing_18 ?_
    refine ev_goto (pc := 19) (tgt := 23) dX2_isComparing_19 rfl ?_
    exact evB_zret (pc := 23) dX2_isComparing_23 rfl rfl hL
  · refine ev_iload_n (pc := 6) (i := 0) dX2_isComparing_6 rfl rfl ?_
    refine ev_bipush (pc := 7) dX2_isComparing_7 (by decide) ?_
    refine ev_icmp_eq (pc := 9) (tgt := 18) dX2_isComparing_9 rfl hL rfl (fun hL => ?_) (fun hL => ?_)
    · refine ev_iconst (pc := 18) dX2_isComparing_18 ?_
      refine ev_goto (pc := 19) (tgt := 23) dX2_isComparing_19 rfl ?_
      exact evB_zret (pc := 23) dX2_isComparing_23 rfl rfl hL
    · refine ev_iload_n (pc := 12) (i := 0) dX2_isComparing_12 rfl rfl ?_
      refine ev_bipush (pc := 13) dX2_isComparing_13 (by decide) ?_
      refine ev_icmp_ne (pc := 15) (tgt := 22) dX2_isComparing_15 rfl hL rfl (fun hL => ?_) (fun hL => ?_)
      · refine ev_iconst (pc := 18) dX2_isComparing_18 ?_
        refine ev_goto (pc := 19) (tgt := 23) dX2_isComparing_19 rfl ?_
        exact evB_zret (pc := 23) dX2_isComparing_23 rfl rfl hL
      · refine ev_iconst (pc := 22) dX2_isComparing_22 ?_
        exact evB_zret (pc := 23) dX2_isComparing_23 rfl rfl hL
set_option maxHeartbeats 1000000 in
set_option maxRecDepth 100000 in
theorem KLw_atom_b105_body {ω : Wd} {z : Nat → Prop} {d0 : Nat} {kf : Hp × Int × Int × Int → Option (Int × Hp)}  {k105 : Hp × Int × Int × Int × Int → Option (Int × Hp)} {h h' : Hp} {x0 x1 x3 x4 r : Int} (hkf : ∀ s o, kf s = some o → CtB ω N_Lw_sum d0 [aV ω s.2.1, aV ω s.2.2.1, iV s.2.2.2] z s.1 (some (iV o.1)) o.2) (hk105 : ∀ s o, k105 s = some o → EvB ω N_Lw_atom (d0 + 3) (QB (some (iV o.1)) z o.2) z s.1 105 [some (aV ω s.2.1), some (aV ω s.2.2.1), none, some (iV s.2.2.2.1), some (iV s.2.2.2.2)] []) (hL : Lw_atom_b105_body kf k105 h x0 x1 x3 x4 = some (r, h')) : EvB ω N_Lw_atom (d0 + 3) (QB (some (iV r)) z h') z h 105 [some (aV ω x0), some (aV ω x1), none, some (iV x3), some (iV x4)] [] := by
  unfold Lw_atom_b105_body at hL
  refine ev_iload (pc := 105) dX2_atom_105 rfl ?_
  refine ev_gets (pc := 107) (n := 4) (by decide) dX2_atom_107 fl_Lw_96 ?_
  obtain ⟨q19a, hL⟩ := cN_un hL
  refine ev_alen (pc := 110) dX2_atom_110 q19a ?_
  refine ev_icmp_ge (pc := 111) (tgt := 154) dX2_atom_111 rfl hL rfl (fun hL => ?_) (fun hL => ?_)
  · refine ev_gets (pc := 114) (n := 4) (by decide) dX2_atom_114 fl_Lw_96 ?_
    refine ev_iload (pc := 117) dX2_atom_117 rfl ?_
    obtain ⟨r20, h21, hc22, hL⟩ := cl_un hL
    refine evB_callS_I (pc := 119) (M_Cc_at hc22) dX2_atom_119 mt_Cc_at st_Cc_at ml_Lw_99 (by omega) rfl rfl (Nat.le_trans sm_z (by decide)) ?_
    refine ev_iload_n (pc := 122) (i := 3) dX2_atom_122 rfl rfl ?_
    refine ev_icmp_ne (pc := 123) (tgt := 148) dX2_atom_123 rfl hL rfl (fun hL => ?_) (fun hL => ?_)
    · refine ev_aload_n (pc := 126) (i := 1) dX2_atom_126 rfl rfl ?_
      refine ev_dup (pc := 127) dX2_atom_127 (cat_aV _ _) ?_
      obtain ⟨hs23, hL⟩ := cC_un hL
      refine ev_get (pc := 128) (c9 := 8) (k9 := 2) dX2_atom_128 fl_Lw_70 (by decide) hs23 gv8_2 ?_
      refine ev_iconst (pc := 131) dX2_atom_131 ?_
      refine ev_iadd (pc := 132) dX2_atom_132 ?_
      refine evB_putI (pc := 133) (c9 := 8) (k9 := 2) (kI := 2) dX2_atom_133 fl_Lw_70 hs23 (by decide) (fun q hq => by cases hq; rfl) rfl rfl rfl ?_
      refine ev_puG hL (fun h24 hL => ?_)
      refine ev_aload_n (pc := 136) (i := 0) dX2_atom_136 rfl rfl ?_
      refine ev_sipush (pc := 137) dX2_atom_137 (by decide) ?_
      refine ev_iload (pc := 140) dX2_atom_140 rfl ?_
      refine ev_iadd (pc := 142) dX2_atom_142 ?_
      obtain ⟨hs25, hL⟩ := cC_un hL
      obtain ⟨r26, h27, hc28, hL⟩ := cl_un hL
      refine evB_callV_V (pc := 143) (M_Lw_emit hc28) dX2_atom_143 mt_Lw_emit st_Lw_emit ml_Lw_57 hs25 (by decide) ⟨_, rfl, rfl⟩ (by omega) rfl rfl (Nat.le_trans sm_z (by decide)) ?_
      refine ev_iconst (pc := 146) dX2_atom_146 ?_
      exact evB_zret (pc := 147) dX2_atom_147 rfl rfl hL
    · refine ev_iinc (pc := 148) dX2_atom_148 rfl (lnl_v rfl rfl) (Nat.le_of_ble_eq_true rfl) ?_
      refine ev_goto (pc := 151) (tgt := 105) dX2_atom_151 rfl ?_
      exact ev_le (lvle_s (lvle_s (lvle_n (lvle_s (lvle_s lvle_z))))) (hk105 _ _ hL)
  · refine ev_aload_n (pc := 154) (i := 1) dX2_atom_154 rfl rfl ?_
    obtain ⟨hs29, hL⟩ := cC_un hL
    obtain ⟨r30, h31, hc32, hL⟩ := cl_un hL
    refine evB_callV_I (pc := 155) (M_Tp_fail hc32) dX2_atom_155 mt_Tp_fail st_Tp_fail ml_Lw_42 hs29 (by decide) ⟨_, rfl, rfl⟩ (by omega) rfl rfl (Nat.le_trans sm_z (by decide)) ?_
    exact evB_zret (pc := 158) dX2_atom_158 rfl rfl hL
set_option maxHeartbeats 1000000 in
set_option maxRecDepth 100000 in
theorem KLw_atom_b105 {ω : Wd} {z : Nat → Prop} {d0 : Nat} {kf : Hp × Int × Int × Int → Option (Int × Hp)}  {h h' : Hp} {x0 x1 x3 x4 r : Int} (hkf : ∀ s o, kf s = some o → CtB ω N_Lw_sum d0 [aV ω s.2.1, aV ω s.2.2.1, iV s.2.2.2] z s.1 (some (iV o.1)) o.2) (hL : Lw_atom_b105 kf h x0 x1 x3 x4 = some (r, h')) : EvB ω N_Lw_atom (d0 + 3) (QB (some (iV r)) z h') z h 105 [some (aV ω x0), some (aV ω x1), none, some (iV x3), some (iV x4)] [] := by
  unfold Lw_atom_b105 at hL
  refine itr_link (P := fun (s : Hp × Int × Int × Int × Int) (o : Int × Hp) => EvB ω N_Lw_atom (d0 + 3) (QB (some (iV o.1)) z o.2) z s.1 105 [some (aV ω s.2.1), some (aV ω s.2.2.1), none, some (iV s.2.2.2.1), some (iV s.2.2.2.2)] []) ?_ _ _ _ hL
  intro k hk s o h9
  have h10 := KLw_atom_b105_body (ω := ω) (z := z) (d0 := d0) (kf := kf) (k105 := k) (h := s.1) (x0 := s.2.1) (x1 := s.2.2.1) (x3 := s.2.2.2.1) (x4 := s.2.2.2.2) (r := o.1) (h' := o.2) hkf
  exact h10 hk h9
set_option maxHeartbeats 1000000 in
set_option maxRecDepth 100000 in
theorem MB_Lw_atom {ω : Wd} {z : Nat → Prop} {d0 : Nat} {kf : Hp × Int × Int × Int → Option (Int × Hp)} {h h' : Hp} {a0 a1 a2 r : Int} (hkf : ∀ s o, kf s = some o → CtB ω N_Lw_sum d0 [aV ω s.2.1, aV ω s.2.2.1, iV s.2.2.2] z s.1 (some (iV o.1)) o.2) (hL : Lw_atom kf h a0 a1 a2 = some (r, h')) : CtB ω N_Lw_atom (d0 + 3) [aV ω a0, aV ω a1, iV a2] z h (some (iV r)) h' := by
  unfold Lw_atom at hL
  refine Ct_of (lv := [some (aV ω a0), some (aV ω a1), some (iV a2), none, none]) (by decide) (Nat.le_trans (sl_1 (cat_aV _ _) (sl_1 (cat_aV _ _) (sl_1 (cat_iV _) sl_z))) (Nat.le_of_ble_eq_true rfl)) (la_1 (cat_aV _ _) (la_1 (cat_aV _ _) (la_1 (cat_iV _) (la_n (la_n la_z))))) ?_
  refine ev_aload_n (pc := 0) (i := 1) dX2_atom_0 rfl rfl ?_
  obtain ⟨hs1, hL⟩ := cC_un hL
  obtain ⟨r2, h3, hc4, hL⟩ := cl_un hL
  refine evB_callV_I (pc := 1) (M_Tp_next hc4) dX2_atom_1 mt_Tp_next st_Tp_next ml_Lw_34 hs1 (by decide) ⟨_, rfl, rfl⟩ (by omega) rfl rfl (Nat.le_trans sm_z (by decide)) ?_
  refine ev_istore_n (pc := 4) (i := 3) dX2_atom_4 rfl (lnl_v rfl rfl) (Nat.le_of_ble_eq_true rfl) ?_
  refine ev_iload_n (pc := 5) (i := 3) dX2_atom_5 rfl rfl ?_
  refine ev_bipush (pc := 6) dX2_atom_6 (by decide) ?_
  refine ev_icmp_ne (pc := 8) (tgt := 58) dX2_atom_8 rfl hL rfl (fun hL => ?_) (fun hL => ?_)
  · refine ev_iload_n (pc := 11) (i := 2) dX2_atom_11 rfl rfl ?_
    refine ev_bipush (pc := 12) dX2_atom_12 (by decide) ?_
    refine ev_icmp_lt (pc := 14) (tgt := 22) dX2_atom_14 rfl hL rfl (fun hL => ?_) (fun hL => ?_)
    · refine ev_aload_n (pc := 22) (i := 1) dX2_atom_22 rfl rfl ?_
      refine ev_dup (pc := 23) dX2_atom_23 (cat_aV _ _) ?_
      refine ev_get (pc := 24) (c9 := 8) (k9 := 2) dX2_atom_24 fl_Lw_70 (by decide) hs1 gv8_2 ?_
      refine ev_iconst (pc := 27) dX2_atom_27 ?_
      refine ev_iadd (pc := 28) dX2_atom_28 ?_
      refine evB_putI (pc := 29) (c9 := 8) (k9 := 2) (kI := 2) dX2_atom_29 fl_Lw_70 hs1 (by decide) (fun q hq => by cases hq; rfl) rfl rfl rfl ?_
      refine ev_puG hL (fun h5 hL => ?_)
      refine ev_aload_n (pc := 32) (i := 0) dX2_atom_32 rfl rfl ?_
      refine ev_aload_n (pc := 33) (i := 1) dX2_atom_33 rfl rfl ?_
      refine ev_iload_n (pc := 34) (i := 2) dX2_atom_34 rfl rfl ?_
      refine ev_iconst (pc := 35) dX2_atom_35 ?_
      refine ev_iadd (pc := 36) dX2_atom_36 ?_
      obtain ⟨hs6, hL⟩ := cC_un hL
      obtain ⟨r7, h8, hc9, hL⟩ := cl_un hL
      refine evB_callV_I (pc := 37) (hkf _ _ hc9) dX2_atom_37 mt_Lw_sum st_Lw_sum ml_Lw_46 hs6 (by decide) ⟨_, rfl, rfl⟩ (by omega) rfl rfl (Nat.le_trans sm_z (by decide)) ?_
      refine ev_if_eq (pc := 40) (tgt := 56) dX2_atom_40 rfl hL rfl (fun hL => ?_) (fun hL => ?_)
      · refine ev_iconst (pc := 56) dX2_atom_56 ?_
        exact evB_zret (pc := 57) dX2_atom_57 rfl rfl hL
      · refine ev_aload_n (pc := 43) (i := 1) dX2_atom_43 rfl rfl ?_
        refine ev_bipush (pc := 44) dX2_atom_44 (by decide) ?_
        obtain ⟨r10, h11, hc12, hL⟩ := cl_un hL
        refine evB_callV_I (pc := 46) (M_Tp_need hc12) dX2_atom_46 mt_Tp_need st_Tp_need ml_Lw_38 hs1 (by decide) ⟨_, rfl, rfl⟩ (by omega) rfl rfl (Nat.le_trans sm_z (by decide)) ?_
        refine ev_if_eq (pc := 49) (tgt := 56) dX2_atom_49 rfl hL rfl (fun hL => ?_) (fun hL => ?_)
        · refine ev_iconst (pc := 56) dX2_atom_56 ?_
          exact evB_zret (pc := 57) dX2_atom_57 rfl rfl hL
        · refine ev_iconst (pc := 52) dX2_atom_52 ?_
          refine ev_goto (pc := 53) (tgt := 57) dX2_atom_53 rfl ?_
          exact evB_zret (pc := 57) dX2_atom_57 rfl rfl hL
    · refine ev_aload_n (pc := 17) (i := 1) dX2_atom_17 rfl rfl ?_
      obtain ⟨r13, h14, hc15, hL⟩ := cl_un hL
      refine evB_callV_I (pc := 18) (M_Tp_fail hc15) dX2_atom_18 mt_Tp_fail st_Tp_fail ml_Lw_42 hs1 (by decide) ⟨_, rfl, rfl⟩ (by omega) rfl rfl (Nat.le_trans sm_z (by decide)) ?_
      exact evB_zret (pc := 21) dX2_atom_21 rfl rfl hL
  · refine ev_iload_n (pc := 58) (i := 3) dX2_atom_58 rfl rfl ?_
    obtain ⟨r16, h17, hc18, hL⟩ := cl_un hL
    refine evB_callS_I (pc := 59) (M_Tp_isDigit hc18) dX2_atom_59 mt_Tp_isDigit st_Tp_isDigit ml_Lw_83 (by omega) rfl rfl (Nat.le_trans sm_z (by decide)) ?_
    refine ev_if_eq (pc := 62) (tgt := 102) dX2_atom_62 rfl hL rfl (fun hL => ?_) (fun hL => ?_)
    · refine ev_iconst (pc := 102) dX2_atom_102 ?_
      refine ev_istore (pc := 103) dX2_atom_103 (lnl_v rfl rfl) (Nat.le_of_ble_eq_true rfl) ?_
      exact ev_le (lvle_s (lvle_s (lvle_n (lvle_s (lvle_s lvle_z))))) (KLw_atom_b105 hkf hL)
    · refine ev_aload_n (pc := 65) (i := 1) dX2_atom_65 rfl rfl ?_
      refine ev_iconst (pc := 66) dX2_atom_66 ?_
      refine ev_iconst (pc := 67) dX2_atom_67 ?_
      refine ev_sipush (pc := 68) dX2_atom_68 (by decide) ?_
      obtain ⟨r33, h34, hc35, hL⟩ := cl_un hL
      refine evB_callV_I (pc := 71) (M_Tp_number hc35) dX2_atom_71 mt_Tp_number st_Tp_number ml_Lw_86 hs1 (by decide) ⟨_, rfl, rfl⟩ (by omega) rfl rfl (Nat.le_trans sm_z (by decide)) ?_
      refine ev_istore (pc := 74) dX2_atom_74 (lnl_v rfl rfl) (Nat.le_of_ble_eq_true rfl) ?_
      refine ev_aload_n (pc := 76) (i := 0) dX2_atom_76 rfl rfl ?_
      refine ev_sipush (pc := 77) dX2_atom_77 (by decide) ?_
      refine ev_iconst (pc := 80) dX2_atom_80 ?_
      refine ev_iload (pc := 81) dX2_atom_81 rfl ?_
      refine ev_max (pc := 83) dX2_atom_83 wm_Lw_90 w_s_max w_i_Math w_k_max (Nat.le_trans (sm_1 (cat_iV _) (sm_1 (cat_aV _ _) sm_z)) (by decide)) (by omega) (Nat.le_refl _) (Nat.le_refl _) ?_
      refine ev_iadd (pc := 86) dX2_atom_86 ?_
      obtain ⟨hs36, hL⟩ := cC_un hL
      obtain ⟨r37, h38, hc39, hL⟩ := cl_un hL
      refine evB_callV_V (pc := 87) (M_Lw_emit hc39) dX2_atom_87 mt_Lw_emit st_Lw_emit ml_Lw_57 hs36 (by decide) ⟨_, rfl, rfl⟩ (by omega) rfl rfl (Nat.le_trans sm_z (by decide)) ?_
      refine ev_iload (pc := 90) dX2_atom_90 rfl ?_
      refine ev_iconst (pc := 92) dX2_atom_92 ?_
      refine ev_icmp_eq (pc := 93) (tgt := 100) dX2_atom_93 rfl hL rfl (fun hL => ?_) (fun hL => ?_)
      · refine ev_iconst (pc := 100) dX2_atom_100 ?_
        exact evB_zret (pc := 101) dX2_atom_101 rfl rfl hL
      · refine ev_iconst (pc := 96) dX2_atom_96 ?_
        refine ev_goto (pc := 97) (tgt := 101) dX2_atom_97 rfl ?_
        exact evB_zret (pc := 101) dX2_atom_101 rfl rfl hL
set_option maxHeartbeats 1000000 in
set_option maxRecDepth 100000 in
theorem KLw_term_b42 {ω : Wd} {z : Nat → Prop} {d0 : Nat} {kf : Hp × Int × Int × Int → Option (Int × Hp)} {k13 : Hp × Int × Int × Int × Int → Option (Int × Hp)} {h h' : Hp} {x0 x1 x2 x3 x4 r : Int} (hkf : ∀ s o, kf s = some o → CtB ω N_Lw_sum d0 [aV ω s.2.1, aV ω s.2.2.1, iV s.2.2.2] z s.1 (some (iV o.1)) o.2) (hk13 : ∀ s o, k13 s = some o → EvB ω N_Lw_term (d0 + 4) (QB (some (iV o.1)) z o.2) z s.1 13 [some (aV ω s.2.1), some (aV ω s.2.2.1), some (iV s.2.2.2.1), some (iV s.2.2.2.2), none] []) (hL : Lw_term_b42 kf k13 h x0 x1 x2 x3 x4 = some (r, h')) : EvB ω N_Lw_term (d0 + 4) (QB (some (iV r)) z h') z h 42 [some (aV ω x0), some (aV ω x1), some (iV x2), some (iV x3), some (iV x4)] [] := by
  unfold Lw_term_b42 at hL
  refine ev_aload_n (pc := 42) (i := 1) dX2_term_42 rfl rfl ?_
  refine ev_dup (pc := 43) dX2_term_43 (cat_aV _ _) ?_
  obtain ⟨hs9, hL⟩ := cC_un hL
  refine ev_get (pc := 44) (c9 := 8) (k9 := 2) dX2_term_44 fl_Lw_70 (by decide) hs9 gv8_2 ?_
  refine ev_iconst (pc := 47) dX2_term_47 ?_
  refine ev_iadd (pc := 48) dX2_term_48 ?_
  refine evB_putI (pc := 49) (c9 := 8) (k9 := 2) (kI := 2) dX2_term_49 fl_Lw_70 hs9 (by decide) (fun q hq => by cases hq; rfl) rfl rfl rfl ?_
  refine ev_puG hL (fun h10 hL => ?_)
  refine ev_aload_n (pc := 52) (i := 0) dX2_term_52 rfl rfl ?_
  refine ev_aload_n (pc := 53) (i := 1) dX2_term_53 rfl rfl ?_
  refine ev_iload_n (pc := 54) (i := 2) dX2_term_54 rfl rfl ?_
  obtain ⟨hs11, hL⟩ := cC_un hL
  obtain ⟨r12, h13, hc14, hL⟩ := cl_un hL
  refine evB_callV_I (pc := 55) (MB_Lw_atom hkf hc14) dX2_term_55 mt_Lw_atom st_Lw_atom ml_Lw_80 hs11 (by decide) ⟨_, rfl, rfl⟩ (by omega) rfl rfl (Nat.le_trans sm_z (by decide)) ?_
  refine ev_if_ne (pc := 58) (tgt := 63) dX2_term_58 rfl hL rfl (fun hL => ?_) (fun hL => ?_)
  · refine ev_iconst (pc := 61) dX2_term_61 ?_
    exact evB_zret (pc := 62) dX2_term_62 rfl rfl hL
  · refine ev_aload_n (pc := 63) (i := 0) dX2_term_63 rfl rfl ?_
    refine ev_iload (pc := 64) dX2_term_64 rfl ?_
    obtain ⟨r15, h16, hc17, hL⟩ := cl_un hL
    refine evB_callV_V (pc := 66) (M_Lw_emit hc17) dX2_term_66 mt_Lw_emit st_Lw_emit ml_Lw_57 hs11 (by decide) ⟨_, rfl, rfl⟩ (by omega) rfl rfl (Nat.le_trans sm_z (by decide)) ?_
    refine ev_iinc (pc := 69) dX2_term_69 rfl (lnl_v rfl rfl) (Nat.le_of_ble_eq_true rfl) ?_
    refine ev_goto (pc := 72) (tgt := 13) dX2_term_72 rfl ?_
    exact ev_le (lvle_s (lvle_s (lvle_s (lvle_s (lvle_n lvle_z))))) (hk13 _ _ hL)
set_option maxHeartbeats 1000000 in
set_option maxRecDepth 100000 in
theorem KLw_term_b13_body {ω : Wd} {z : Nat → Prop} {d0 : Nat} {kf : Hp × Int × Int × Int → Option (Int × Hp)}  {k13 : Hp × Int × Int × Int × Int → Option (Int × Hp)} {h h' : Hp} {x0 x1 x2 x3 r : Int} (hkf : ∀ s o, kf s = some o → CtB ω N_Lw_sum d0 [aV ω s.2.1, aV ω s.2.2.1, iV s.2.2.2] z s.1 (some (iV o.1)) o.2) (hk13 : ∀ s o, k13 s = some o → EvB ω N_Lw_term (d0 + 4) (QB (some (iV o.1)) z o.2) z s.1 13 [some (aV ω s.2.1), some (aV ω s.2.2.1), some (iV s.2.2.2.1), some (iV s.2.2.2.2), none] []) (hL : Lw_term_b13_body kf k13 h x0 x1 x2 x3 = some (r, h')) : EvB ω N_Lw_term (d0 + 4) (QB (some (iV r)) z h') z h 13 [some (aV ω x0), some (aV ω x1), some (iV x2), some (iV x3), none] [] := by
  unfold Lw_term_b13_body at hL
  refine ev_iload_n (pc := 13) (i := 3) dX2_term_13 rfl rfl ?_
  refine ev_sipush (pc := 14) dX2_term_14 (by decide) ?_
  refine ev_icmp_ge (pc := 17) (tgt := 75) dX2_term_17 rfl hL rfl (fun hL => ?_) (fun hL => ?_)
  · refine ev_aload_n (pc := 20) (i := 1) dX2_term_20 rfl rfl ?_
    obtain ⟨hs5, hL⟩ := cC_un hL
    obtain ⟨r6, h7, hc8, hL⟩ := cl_un hL
    refine evB_callV_I (pc := 21) (M_Tp_next hc8) dX2_term_21 mt_Tp_next st_Tp_next ml_Lw_34 hs5 (by decide) ⟨_, rfl, rfl⟩ (by omega) rfl rfl (Nat.le_trans sm_z (by decide)) ?_
    refine ev_istore (pc := 24) dX2_term_24 (lnl_v rfl rfl) (Nat.le_of_ble_eq_true rfl) ?_
    refine ev_iload (pc := 26) dX2_term_26 rfl ?_
    refine ev_bipush (pc := 28) dX2_term_28 (by decide) ?_
    refine ev_icmp_eq (pc := 30) (tgt := 42) dX2_term_30 rfl hL rfl (fun hL => ?_) (fun hL => ?_)
    · exact ev_le (lvle_s (lvle_s (lvle_s (lvle_s (lvle_s lvle_z))))) (KLw_term_b42 hkf hk13 hL)
    · refine ev_iload (pc := 33) dX2_term_33 rfl ?_
      refine ev_bipush (pc := 35) dX2_term_35 (by decide) ?_
      refine ev_icmp_eq (pc := 37) (tgt := 42) dX2_term_37 rfl hL rfl (fun hL => ?_) (fun hL => ?_)
      · exact ev_le (lvle_s (lvle_s (lvle_s (lvle_s (lvle_s lvle_z))))) (KLw_term_b42 hkf hk13 hL)
      · refine ev_iconst (pc := 40) dX2_term_40 ?_
        exact evB_zret (pc := 41) dX2_term_41 rfl rfl hL
  · refine ev_aload_n (pc := 75) (i := 1) dX2_term_75 rfl rfl ?_
    obtain ⟨hs18, hL⟩ := cC_un hL
    obtain ⟨r19, h20, hc21, hL⟩ := cl_un hL
    refine evB_callV_I (pc := 76) (M_Tp_fail hc21) dX2_term_76 mt_Tp_fail st_Tp_fail ml_Lw_42 hs18 (by decide) ⟨_, rfl, rfl⟩ (by omega) rfl rfl (Nat.le_trans sm_z (by decide)) ?_
    exact evB_zret (pc := 79) dX2_term_79 rfl rfl hL
set_option maxHeartbeats 1000000 in
set_option maxRecDepth 100000 in
theorem KLw_term_b13 {ω : Wd} {z : Nat → Prop} {d0 : Nat} {kf : Hp × Int × Int × Int → Option (Int × Hp)}  {h h' : Hp} {x0 x1 x2 x3 r : Int} (hkf : ∀ s o, kf s = some o → CtB ω N_Lw_sum d0 [aV ω s.2.1, aV ω s.2.2.1, iV s.2.2.2] z s.1 (some (iV o.1)) o.2) (hL : Lw_term_b13 kf h x0 x1 x2 x3 = some (r, h')) : EvB ω N_Lw_term (d0 + 4) (QB (some (iV r)) z h') z h 13 [some (aV ω x0), some (aV ω x1), some (iV x2), some (iV x3), none] [] := by
  unfold Lw_term_b13 at hL
  refine itr_link (P := fun (s : Hp × Int × Int × Int × Int) (o : Int × Hp) => EvB ω N_Lw_term (d0 + 4) (QB (some (iV o.1)) z o.2) z s.1 13 [some (aV ω s.2.1), some (aV ω s.2.2.1), some (iV s.2.2.2.1), some (iV s.2.2.2.2), none] []) ?_ _ _ _ hL
  intro k hk s o h9
  have h10 := KLw_term_b13_body (ω := ω) (z := z) (d0 := d0) (kf := kf) (k13 := k) (h := s.1) (x0 := s.2.1) (x1 := s.2.2.1) (x2 := s.2.2.2.1) (x3 := s.2.2.2.2) (r := o.1) (h' := o.2) hkf
  exact h10 hk h9
set_option maxHeartbeats 1000000 in
set_option maxRecDepth 100000 in
theorem MB_Lw_term {ω : Wd} {z : Nat → Prop} {d0 : Nat} {kf : Hp × Int × Int × Int → Option (Int × Hp)} {h h' : Hp} {a0 a1 a2 r : Int} (hkf : ∀ s o, kf s = some o → CtB ω N_Lw_sum d0 [aV ω s.2.1, aV ω s.2.2.1, iV s.2.2.2] z s.1 (some (iV o.1)) o.2) (hL : Lw_term kf h a0 a1 a2 = some (r, h')) : CtB ω N_Lw_term (d0 + 4) [aV ω a0, aV ω a1, iV a2] z h (some (iV r)) h' := by
  unfold Lw_term at hL
  refine Ct_of (lv := [some (aV ω a0), some (aV ω a1), some (iV a2), none, none]) (by decide) (Nat.le_trans (sl_1 (cat_aV _ _) (sl_1 (cat_aV _ _) (sl_1 (cat_iV _) sl_z))) (Nat.le_of_ble_eq_true rfl)) (la_1 (cat_aV _ _) (la_1 (cat_aV _ _) (la_1 (cat_iV _) (la_n (la_n la_z))))) ?_
  refine ev_aload_n (pc := 0) (i := 0) dX2_term_0 rfl rfl ?_
  refine ev_aload_n (pc := 1) (i := 1) dX2_term_1 rfl rfl ?_
  refine ev_iload_n (pc := 2) (i := 2) dX2_term_2 rfl rfl ?_
  obtain ⟨hs1, hL⟩ := cC_un hL
  obtain ⟨r2, h3, hc4, hL⟩ := cl_un hL
  refine evB_callV_I (pc := 3) (MB_Lw_atom hkf hc4) dX2_term_3 mt_Lw_atom st_Lw_atom ml_Lw_80 hs1 (by decide) ⟨_, rfl, rfl⟩ (by omega) rfl rfl (Nat.le_trans sm_z (by decide)) ?_
  refine ev_if_ne (pc := 6) (tgt := 11) dX2_term_6 rfl hL rfl (fun hL => ?_) (fun hL => ?_)
  · refine ev_iconst (pc := 9) dX2_term_9 ?_
    exact evB_zret (pc := 10) dX2_term_10 rfl rfl hL
  · refine ev_iconst (pc := 11) dX2_term_11 ?_
    refine ev_istore_n (pc := 12) (i := 3) dX2_term_12 rfl (lnl_v rfl rfl) (Nat.le_of_ble_eq_true rfl) ?_
    exact ev_le (lvle_s (lvle_s (lvle_s (lvle_s (lvle_n lvle_z))))) (KLw_term_b13 hkf hL)
set_option maxHeartbeats 1000000 in
set_option maxRecDepth 100000 in
theorem KLw_sum_b42 {ω : Wd} {z : Nat → Prop} {d0 : Nat} {kf : Hp × Int × Int × Int → Option (Int × Hp)} {k13 : Hp × Int × Int × Int × Int → Option (Int × Hp)} {h h' : Hp} {x0 x1 x2 x3 x4 r : Int} (hkf : ∀ s o, kf s = some o → CtB ω N_Lw_sum d0 [aV ω s.2.1, aV ω s.2.2.1, iV s.2.2.2] z s.1 (some (iV o.1)) o.2) (hk13 : ∀ s o, k13 s = some o → EvB ω N_Lw_sum (d0 + 5) (QB (some (iV o.1)) z o.2) z s.1 13 [some (aV ω s.2.1), some (aV ω s.2.2.1), some (iV s.2.2.2.1), some (iV s.2.2.2.2), none] []) (hL : Lw_sum_b42 kf k13 h x0 x1 x2 x3 x4 = some (r, h')) : EvB ω N_Lw_sum (d0 + 5) (QB (some (iV r)) z h') z h 42 [some (aV ω x0), some (aV ω x1), some (iV x2), some (iV x3), some (iV x4)] [] := by
  unfold Lw_sum_b42 at hL
  refine ev_aload_n (pc := 42) (i := 1) dX2_sum_42 rfl rfl ?_
  refine ev_dup (pc := 43) dX2_sum_43 (cat_aV _ _) ?_
  obtain ⟨hs9, hL⟩ := cC_un hL
  refine ev_get (pc := 44) (c9 := 8) (k9 := 2) dX2_sum_44 fl_Lw_70 (by decide) hs9 gv8_2 ?_
  refine ev_iconst (pc := 47) dX2_sum_47 ?_
  refine ev_iadd (pc := 48) dX2_sum_48 ?_
  refine evB_putI (pc := 49) (c9 := 8) (k9 := 2) (kI := 2) dX2_sum_49 fl_Lw_70 hs9 (by decide) (fun q hq => by cases hq; rfl) rfl rfl rfl ?_
  refine ev_puG hL (fun h10 hL => ?_)
  refine ev_aload_n (pc := 52) (i := 0) dX2_sum_52 rfl rfl ?_
  refine ev_aload_n (pc := 53) (i := 1) dX2_sum_53 rfl rfl ?_
  refine ev_iload_n (pc := 54) (i := 2) dX2_sum_54 rfl rfl ?_
  obtain ⟨hs11, hL⟩ := cC_un hL
  obtain ⟨r12, h13, hc14, hL⟩ := cl_un hL
  refine evB_callV_I (pc := 55) (MB_Lw_term hkf hc14) dX2_sum_55 mt_Lw_term st_Lw_term ml_Lw_77 hs11 (by decide) ⟨_, rfl, rfl⟩ (by omega) rfl rfl (Nat.le_trans sm_z (by decide)) ?_
  refine ev_if_ne (pc := 58) (tgt := 63) dX2_sum_58 rfl hL rfl (fun hL => ?_) (fun hL => ?_)
  · refine ev_iconst (pc := 61) dX2_sum_61 ?_
    exact evB_zret (pc := 62) dX2_sum_62 rfl rfl hL
  · refine ev_aload_n (pc := 63) (i := 0) dX2_sum_63 rfl rfl ?_
    refine ev_iload (pc := 64) dX2_sum_64 rfl ?_
    obtain ⟨r15, h16, hc17, hL⟩ := cl_un hL
    refine evB_callV_V (pc := 66) (M_Lw_emit hc17) dX2_sum_66 mt_Lw_emit st_Lw_emit ml_Lw_57 hs11 (by decide) ⟨_, rfl, rfl⟩ (by omega) rfl rfl (Nat.le_trans sm_z (by decide)) ?_
    refine ev_iinc (pc := 69) dX2_sum_69 rfl (lnl_v rfl rfl) (Nat.le_of_ble_eq_true rfl) ?_
    refine ev_goto (pc := 72) (tgt := 13) dX2_sum_72 rfl ?_
    exact ev_le (lvle_s (lvle_s (lvle_s (lvle_s (lvle_n lvle_z))))) (hk13 _ _ hL)
set_option maxHeartbeats 1000000 in
set_option maxRecDepth 100000 in
theorem KLw_sum_b13_body {ω : Wd} {z : Nat → Prop} {d0 : Nat} {kf : Hp × Int × Int × Int → Option (Int × Hp)}  {k13 : Hp × Int × Int × Int × Int → Option (Int × Hp)} {h h' : Hp} {x0 x1 x2 x3 r : Int} (hkf : ∀ s o, kf s = some o → CtB ω N_Lw_sum d0 [aV ω s.2.1, aV ω s.2.2.1, iV s.2.2.2] z s.1 (some (iV o.1)) o.2) (hk13 : ∀ s o, k13 s = some o → EvB ω N_Lw_sum (d0 + 5) (QB (some (iV o.1)) z o.2) z s.1 13 [some (aV ω s.2.1), some (aV ω s.2.2.1), some (iV s.2.2.2.1), some (iV s.2.2.2.2), none] []) (hL : Lw_sum_b13_body kf k13 h x0 x1 x2 x3 = some (r, h')) : EvB ω N_Lw_sum (d0 + 5) (QB (some (iV r)) z h') z h 13 [some (aV ω x0), some (aV ω x1), some (iV x2), some (iV x3), none] [] := by
  unfold Lw_sum_b13_body at hL
  refine ev_iload_n (pc := 13) (i := 3) dX2_sum_13 rfl rfl ?_
  refine ev_sipush (pc := 14) dX2_sum_14 (by decide) ?_
  refine ev_icmp_ge (pc := 17) (tgt := 75) dX2_sum_17 rfl hL rfl (fun hL => ?_) (fun hL => ?_)
  · refine ev_aload_n (pc := 20) (i := 1) dX2_sum_20 rfl rfl ?_
    obtain ⟨hs5, hL⟩ := cC_un hL
    obtain ⟨r6, h7, hc8, hL⟩ := cl_un hL
    refine evB_callV_I (pc := 21) (M_Tp_next hc8) dX2_sum_21 mt_Tp_next st_Tp_next ml_Lw_34 hs5 (by decide) ⟨_, rfl, rfl⟩ (by omega) rfl rfl (Nat.le_trans sm_z (by decide)) ?_
    refine ev_istore (pc := 24) dX2_sum_24 (lnl_v rfl rfl) (Nat.le_of_ble_eq_true rfl) ?_
    refine ev_iload (pc := 26) dX2_sum_26 rfl ?_
    refine ev_bipush (pc := 28) dX2_sum_28 (by decide) ?_
    refine ev_icmp_eq (pc := 30) (tgt := 42) dX2_sum_30 rfl hL rfl (fun hL => ?_) (fun hL => ?_)
    · exact ev_le (lvle_s (lvle_s (lvle_s (lvle_s (lvle_s lvle_z))))) (KLw_sum_b42 hkf hk13 hL)
    · refine ev_iload (pc := 33) dX2_sum_33 rfl ?_
      refine ev_bipush (pc := 35) dX2_sum_35 (by decide) ?_
      refine ev_icmp_eq (pc := 37) (tgt := 42) dX2_sum_37 rfl hL rfl (fun hL => ?_) (fun hL => ?_)
      · exact ev_le (lvle_s (lvle_s (lvle_s (lvle_s (lvle_s lvle_z))))) (KLw_sum_b42 hkf hk13 hL)
      · refine ev_iconst (pc := 40) dX2_sum_40 ?_
        exact evB_zret (pc := 41) dX2_sum_41 rfl rfl hL
  · refine ev_aload_n (pc := 75) (i := 1) dX2_sum_75 rfl rfl ?_
    obtain ⟨hs18, hL⟩ := cC_un hL
    obtain ⟨r19, h20, hc21, hL⟩ := cl_un hL
    refine evB_callV_I (pc := 76) (M_Tp_fail hc21) dX2_sum_76 mt_Tp_fail st_Tp_fail ml_Lw_42 hs18 (by decide) ⟨_, rfl, rfl⟩ (by omega) rfl rfl (Nat.le_trans sm_z (by decide)) ?_
    exact evB_zret (pc := 79) dX2_sum_79 rfl rfl hL
set_option maxHeartbeats 1000000 in
set_option maxRecDepth 100000 in
theorem KLw_sum_b13 {ω : Wd} {z : Nat → Prop} {d0 : Nat} {kf : Hp × Int × Int × Int → Option (Int × Hp)}  {h h' : Hp} {x0 x1 x2 x3 r : Int} (hkf : ∀ s o, kf s = some o → CtB ω N_Lw_sum d0 [aV ω s.2.1, aV ω s.2.2.1, iV s.2.2.2] z s.1 (some (iV o.1)) o.2) (hL : Lw_sum_b13 kf h x0 x1 x2 x3 = some (r, h')) : EvB ω N_Lw_sum (d0 + 5) (QB (some (iV r)) z h') z h 13 [some (aV ω x0), some (aV ω x1), some (iV x2), some (iV x3), none] [] := by
  unfold Lw_sum_b13 at hL
  refine itr_link (P := fun (s : Hp × Int × Int × Int × Int) (o : Int × Hp) => EvB ω N_Lw_sum (d0 + 5) (QB (some (iV o.1)) z o.2) z s.1 13 [some (aV ω s.2.1), some (aV ω s.2.2.1), some (iV s.2.2.2.1), some (iV s.2.2.2.2), none] []) ?_ _ _ _ hL
  intro k hk s o h9
  have h10 := KLw_sum_b13_body (ω := ω) (z := z) (d0 := d0) (kf := kf) (k13 := k) (h := s.1) (x0 := s.2.1) (x1 := s.2.2.1) (x2 := s.2.2.2.1) (x3 := s.2.2.2.2) (r := o.1) (h' := o.2) hkf
  exact h10 hk h9
set_option maxHeartbeats 1000000 in
set_option maxRecDepth 100000 in
theorem MB_Lw_sum {ω : Wd} {z : Nat → Prop} {d0 : Nat} {kf : Hp × Int × Int × Int → Option (Int × Hp)} {h h' : Hp} {a0 a1 a2 r : Int} (hkf : ∀ s o, kf s = some o → CtB ω N_Lw_sum d0 [aV ω s.2.1, aV ω s.2.2.1, iV s.2.2.2] z s.1 (some (iV o.1)) o.2) (hL : Lw_sum_body kf h a0 a1 a2 = some (r, h')) : CtB ω N_Lw_sum (d0 + 5) [aV ω a0, aV ω a1, iV a2] z h (some (iV r)) h' := by
  unfold Lw_sum_body at hL
  refine Ct_of (lv := [some (aV ω a0), some (aV ω a1), some (iV a2), none, none]) (by decide) (Nat.le_trans (sl_1 (cat_aV _ _) (sl_1 (cat_aV _ _) (sl_1 (cat_iV _) sl_z))) (Nat.le_of_ble_eq_true rfl)) (la_1 (cat_aV _ _) (la_1 (cat_aV _ _) (la_1 (cat_iV _) (la_n (la_n la_z))))) ?_
  refine ev_aload_n (pc := 0) (i := 0) dX2_sum_0 rfl rfl ?_
  refine ev_aload_n (pc := 1) (i := 1) dX2_sum_1 rfl rfl ?_
  refine ev_iload_n (pc := 2) (i := 2) dX2_sum_2 rfl rfl ?_
  obtain ⟨hs1, hL⟩ := cC_un hL
  obtain ⟨r2, h3, hc4, hL⟩ := cl_un hL
  refine evB_callV_I (pc := 3) (MB_Lw_term hkf hc4) dX2_sum_3 mt_Lw_term st_Lw_term ml_Lw_77 hs1 (by decide) ⟨_, rfl, rfl⟩ (by omega) rfl rfl (Nat.le_trans sm_z (by decide)) ?_
  refine ev_if_ne (pc := 6) (tgt := 11) dX2_sum_6 rfl hL rfl (fun hL => ?_) (fun hL => ?_)
  · refine ev_iconst (pc := 9) dX2_sum_9 ?_
    exact evB_zret (pc := 10) dX2_sum_10 rfl rfl hL
  · refine ev_iconst (pc := 11) dX2_sum_11 ?_
    refine ev_istore_n (pc := 12) (i := 3) dX2_sum_12 rfl (lnl_v rfl rfl) (Nat.le_of_ble_eq_true rfl) ?_
    exact ev_le (lvle_s (lvle_s (lvle_s (lvle_s (lvle_n lvle_z))))) (KLw_sum_b13 hkf hL)
set_option maxHeartbeats 1000000 in
set_option maxRecDepth 100000 in
theorem MR_Lw_sum {ω : Wd} {z : Nat → Prop} : ∀ (n : Nat) (s : Hp × Int × Int × Int) (o : Int × Hp), itr (fun k s => Lw_sum_body k s.1 s.2.1 s.2.2.1 s.2.2.2) n s = some o → CtB ω N_Lw_sum (n * 5) [aV ω s.2.1, aV ω s.2.2.1, iV s.2.2.2] z s.1 (some (iV o.1)) o.2 := by
  refine itr_rec (P := fun (n : Nat) (s : Hp × Int × Int × Int) (o : Int × Hp) => CtB ω N_Lw_sum (n * 5) [aV ω s.2.1, aV ω s.2.2.1, iV s.2.2.2] z s.1 (some (iV o.1)) o.2) (fun n k hk s o h9 => ?_)
  have := MB_Lw_sum (ω := ω) (z := z) (h := s.1) (a0 := s.2.1) (a1 := s.2.2.1) (a2 := s.2.2.2) (r := o.1) (h' := o.2) hk h9
  rwa [show n * 5 + 5 = (n + 1) * 5 from by omega] at this
set_option maxHeartbeats 1000000 in
set_option maxRecDepth 100000 in
theorem M_Lw_sum {ω : Wd} {z : Nat → Prop} {h h' : Hp} {a0 a1 a2 r : Int} (hL : Lw_sum h a0 a1 a2 = some (r, h')) : CtB ω N_Lw_sum 60 [aV ω a0, aV ω a1, iV a2] z h (some (iV r)) h' := by
  unfold Lw_sum Lw_sum_f at hL
  exact MR_Lw_sum RF (h, a0, a1, a2) (r, h') hL
set_option maxRecDepth 100000 in
theorem M_Lw_atom {ω : Wd} {z : Nat → Prop} {h h' : Hp} {a0 a1 a2 r : Int} (hL : Lw_atom Lw_sum_f h a0 a1 a2 = some (r, h')) : CtB ω N_Lw_atom 63 [aV ω a0, aV ω a1, iV a2] z h (some (iV r)) h' := MB_Lw_atom (d0 := 60) (fun s o g => MR_Lw_sum RF s o (by unfold Lw_sum_f at g; exact g)) hL
set_option maxRecDepth 100000 in
theorem M_Lw_term {ω : Wd} {z : Nat → Prop} {h h' : Hp} {a0 a1 a2 r : Int} (hL : Lw_term Lw_sum_f h a0 a1 a2 = some (r, h')) : CtB ω N_Lw_term 64 [aV ω a0, aV ω a1, iV a2] z h (some (iV r)) h' := MB_Lw_term (d0 := 60) (fun s o g => MR_Lw_sum RF s o (by unfold Lw_sum_f at g; exact g)) hL
set_option maxHeartbeats 1000000 in
set_option maxRecDepth 100000 in
theorem KLw_moreUnits_b2_body {ω : Wd} {z : Nat → Prop} {d0 : Nat} {kf : Hp × Int × Int × Int × Int → Option (Int × Hp)}  {k2 : Hp × Int × Int × Int × Int → Option (Int × Hp)} {h h' : Hp} {x0 x1 x2 x3 r : Int} (hkf : ∀ s o, kf s = some o → CtB ω N_Lw_unit d0 [aV ω s.2.1, aV ω s.2.2.1, iV s.2.2.2.1, iV s.2.2.2.2] z s.1 (some (iV o.1)) o.2) (hk2 : ∀ s o, k2 s = some o → EvB ω N_Lw_moreUnits (d0 + 61) (QB (some (iV o.1)) z o.2) z s.1 2 [some (aV ω s.2.1), some (aV ω s.2.2.1), some (iV s.2.2.2.1), some (iV s.2.2.2.2)] []) (hL : Lw_moreUnits_b2_body kf k2 h x0 x1 x2 x3 = some (r, h')) : EvB ω N_Lw_moreUnits (d0 + 61) (QB (some (iV r)) z h') z h 2 [some (aV ω x0), some (aV ω x1), some (iV x2), some (iV x3)] [] := by
  unfold Lw_moreUnits_b2_body at hL
  refine ev_iload_n (pc := 2) (i := 3) dX2_moreUnits_2 rfl rfl ?_
  refine ev_sipush (pc := 3) dX2_moreUnits_3 (by decide) ?_
  refine ev_icmp_ge (pc := 6) (tgt := 52) dX2_moreUnits_6 rfl hL rfl (fun hL => ?_) (fun hL => ?_)
  · refine ev_aload_n (pc := 9) (i := 1) dX2_moreUnits_9 rfl rfl ?_
    obtain ⟨hs1, hL⟩ := cC_un hL
    obtain ⟨r2, h3, hc4, hL⟩ := cl_un hL
    refine evB_callV_I (pc := 10) (M_Tp_next hc4) dX2_moreUnits_10 mt_Tp_next st_Tp_next ml_Lw_34 hs1 (by decide) ⟨_, rfl, rfl⟩ (by omega) rfl rfl (Nat.le_trans sm_z (by decide)) ?_
    refine ev_bipush (pc := 13) dX2_moreUnits_13 (by decide) ?_
    refine ev_icmp_ne (pc := 15) (tgt := 52) dX2_moreUnits_15 rfl hL rfl (fun hL => ?_) (fun hL => ?_)
    · refine ev_aload_n (pc := 18) (i := 1) dX2_moreUnits_18 rfl rfl ?_
      refine ev_dup (pc := 19) dX2_moreUnits_19 (cat_aV _ _) ?_
      refine ev_get (pc := 20) (c9 := 8) (k9 := 2) dX2_moreUnits_20 fl_Lw_70 (by decide) hs1 gv8_2 ?_
      refine ev_iconst (pc := 23) dX2_moreUnits_23 ?_
      refine ev_iadd (pc := 24) dX2_moreUnits_24 ?_
      refine evB_putI (pc := 25) (c9 := 8) (k9 := 2) (kI := 2) dX2_moreUnits_25 fl_Lw_70 hs1 (by decide) (fun q hq => by cases hq; rfl) rfl rfl rfl ?_
      refine ev_puG hL (fun h5 hL => ?_)
      refine ev_aload_n (pc := 28) (i := 0) dX2_moreUnits_28 rfl rfl ?_
      refine ev_aload_n (pc := 29) (i := 1) dX2_moreUnits_29 rfl rfl ?_
      refine ev_iload_n (pc := 30) (i := 2) dX2_moreUnits_30 rfl rfl ?_
      refine ev_iconst (pc := 31) dX2_moreUnits_31 ?_
      obtain ⟨hs6, hL⟩ := cC_un hL
      obtain ⟨r7, h8, hc9, hL⟩ := cl_un hL
      refine evB_callV_I (pc := 32) (hkf _ _ hc9) dX2_moreUnits_32 mt_Lw_unit st_Lw_unit ml_Lw_61 hs6 (by decide) ⟨_, rfl, rfl⟩ (by omega) rfl rfl (Nat.le_trans sm_z (by decide)) ?_
      refine ev_if_ne (pc := 35) (tgt := 40) dX2_moreUnits_35 rfl hL rfl (fun hL => ?_) (fun hL => ?_)
      · refine ev_iconst (pc := 38) dX2_moreUnits_38 ?_
        exact evB_zret (pc := 39) dX2_moreUnits_39 rfl rfl hL
      · refine ev_aload_n (pc := 40) (i := 0) dX2_moreUnits_40 rfl rfl ?_
        refine ev_bipush (pc := 41) dX2_moreUnits_41 (by decide) ?_
        obtain ⟨r10, h11, hc12, hL⟩ := cl_un hL
        refine evB_callV_V (pc := 43) (M_Lw_emit hc12) dX2_moreUnits_43 mt_Lw_emit st_Lw_emit ml_Lw_57 hs6 (by decide) ⟨_, rfl, rfl⟩ (by omega) rfl rfl (Nat.le_trans sm_z (by decide)) ?_
        refine ev_iinc (pc := 46) dX2_moreUnits_46 rfl (lnl_v rfl rfl) (Nat.le_of_ble_eq_true rfl) ?_
        refine ev_goto (pc := 49) (tgt := 2) dX2_moreUnits_49 rfl ?_
        exact ev_le (lvle_s (lvle_s (lvle_s (lvle_s lvle_z)))) (hk2 _ _ hL)
    · refine ev_iconst (pc := 52) dX2_moreUnits_52 ?_
      exact evB_zret (pc := 53) dX2_moreUnits_53 rfl rfl hL
  · refine ev_iconst (pc := 52) dX2_moreUnits_52 ?_
    exact evB_zret (pc := 53) dX2_moreUnits_53 rfl rfl hL
set_option maxHeartbeats 1000000 in
set_option maxRecDepth 100000 in
theorem KLw_moreUnits_b2 {ω : Wd} {z : Nat → Prop} {d0 : Nat} {kf : Hp × Int × Int × Int × Int → Option (Int × Hp)}  {h h' : Hp} {x0 x1 x2 x3 r : Int} (hkf : ∀ s o, kf s = some o → CtB ω N_Lw_unit d0 [aV ω s.2.1, aV ω s.2.2.1, iV s.2.2.2.1, iV s.2.2.2.2] z s.1 (some (iV o.1)) o.2) (hL : Lw_moreUnits_b2 kf h x0 x1 x2 x3 = some (r, h')) : EvB ω N_Lw_moreUnits (d0 + 61) (QB (some (iV r)) z h') z h 2 [some (aV ω x0), some (aV ω x1), some (iV x2), some (iV x3)] [] := by
  unfold Lw_moreUnits_b2 at hL
  refine itr_link (P := fun (s : Hp × Int × Int × Int × Int) (o : Int × Hp) => EvB ω N_Lw_moreUnits (d0 + 61) (QB (some (iV o.1)) z o.2) z s.1 2 [some (aV ω s.2.1), some (aV ω s.2.2.1), some (iV s.2.2.2.1), some (iV s.2.2.2.2)] []) ?_ _ _ _ hL
  intro k hk s o h9
  have h10 := KLw_moreUnits_b2_body (ω := ω) (z := z) (d0 := d0) (kf := kf) (k2 := k) (h := s.1) (x0 := s.2.1) (x1 := s.2.2.1) (x2 := s.2.2.2.1) (x3 := s.2.2.2.2) (r := o.1) (h' := o.2) hkf
  exact h10 hk h9
set_option maxHeartbeats 1000000 in
set_option maxRecDepth 100000 in
theorem MB_Lw_moreUnits {ω : Wd} {z : Nat → Prop} {d0 : Nat} {kf : Hp × Int × Int × Int × Int → Option (Int × Hp)} {h h' : Hp} {a0 a1 a2 r : Int} (hkf : ∀ s o, kf s = some o → CtB ω N_Lw_unit d0 [aV ω s.2.1, aV ω s.2.2.1, iV s.2.2.2.1, iV s.2.2.2.2] z s.1 (some (iV o.1)) o.2) (hL : Lw_moreUnits kf h a0 a1 a2 = some (r, h')) : CtB ω N_Lw_moreUnits (d0 + 61) [aV ω a0, aV ω a1, iV a2] z h (some (iV r)) h' := by
  unfold Lw_moreUnits at hL
  refine Ct_of (lv := [some (aV ω a0), some (aV ω a1), some (iV a2), none]) (by decide) (Nat.le_trans (sl_1 (cat_aV _ _) (sl_1 (cat_aV _ _) (sl_1 (cat_iV _) sl_z))) (Nat.le_of_ble_eq_true rfl)) (la_1 (cat_aV _ _) (la_1 (cat_aV _ _) (la_1 (cat_iV _) (la_n la_z)))) ?_
  refine ev_iconst (pc := 0) dX2_moreUnits_0 ?_
  refine ev_istore_n (pc := 1) (i := 3) dX2_moreUnits_1 rfl (lnl_v rfl rfl) (Nat.le_of_ble_eq_true rfl) ?_
  exact ev_le (lvle_s (lvle_s (lvle_s (lvle_s lvle_z)))) (KLw_moreUnits_b2 hkf hL)
set_option maxHeartbeats 1000000 in
set_option maxRecDepth 100000 in
theorem KLw_moreTruths_b2_body {ω : Wd} {z : Nat → Prop} {d0 : Nat} {kf : Hp × Int × Int × Int × Int → Option (Int × Hp)}  {k2 : Hp × Int × Int × Int × Int → Option (Int × Hp)} {h h' : Hp} {x0 x1 x2 x3 r : Int} (hkf : ∀ s o, kf s = some o → CtB ω N_Lw_unit d0 [aV ω s.2.1, aV ω s.2.2.1, iV s.2.2.2.1, iV s.2.2.2.2] z s.1 (some (iV o.1)) o.2) (hk2 : ∀ s o, k2 s = some o → EvB ω N_Lw_moreTruths (d0 + 62) (QB (some (iV o.1)) z o.2) z s.1 2 [some (aV ω s.2.1), some (aV ω s.2.2.1), some (iV s.2.2.2.1), some (iV s.2.2.2.2)] []) (hL : Lw_moreTruths_b2_body kf k2 h x0 x1 x2 x3 = some (r, h')) : EvB ω N_Lw_moreTruths (d0 + 62) (QB (some (iV r)) z h') z h 2 [some (aV ω x0), some (aV ω x1), some (iV x2), some (iV x3)] [] := by
  unfold Lw_moreTruths_b2_body at hL
  refine ev_iload_n (pc := 2) (i := 3) dX2_moreTruths_2 rfl rfl ?_
  refine ev_sipush (pc := 3) dX2_moreTruths_3 (by decide) ?_
  refine ev_icmp_ge (pc := 6) (tgt := 61) dX2_moreTruths_6 rfl hL rfl (fun hL => ?_) (fun hL => ?_)
  · refine ev_aload_n (pc := 9) (i := 1) dX2_moreTruths_9 rfl rfl ?_
    obtain ⟨hs1, hL⟩ := cC_un hL
    obtain ⟨r2, h3, hc4, hL⟩ := cl_un hL
    refine evB_callV_I (pc := 10) (M_Tp_next hc4) dX2_moreTruths_10 mt_Tp_next st_Tp_next ml_Lw_34 hs1 (by decide) ⟨_, rfl, rfl⟩ (by omega) rfl rfl (Nat.le_trans sm_z (by decide)) ?_
    refine ev_bipush (pc := 13) dX2_moreTruths_13 (by decide) ?_
    refine ev_icmp_ne (pc := 15) (tgt := 61) dX2_moreTruths_15 rfl hL rfl (fun hL => ?_) (fun hL => ?_)
    · refine ev_aload_n (pc := 18) (i := 1) dX2_moreTruths_18 rfl rfl ?_
      refine ev_dup (pc := 19) dX2_moreTruths_19 (cat_aV _ _) ?_
      refine ev_get (pc := 20) (c9 := 8) (k9 := 2) dX2_moreTruths_20 fl_Lw_70 (by decide) hs1 gv8_2 ?_
      refine ev_iconst (pc := 23) dX2_moreTruths_23 ?_
      refine ev_iadd (pc := 24) dX2_moreTruths_24 ?_
      refine evB_putI (pc := 25) (c9 := 8) (k9 := 2) (kI := 2) dX2_moreTruths_25 fl_Lw_70 hs1 (by decide) (fun q hq => by cases hq; rfl) rfl rfl rfl ?_
      refine ev_puG hL (fun h5 hL => ?_)
      refine ev_aload_n (pc := 28) (i := 0) dX2_moreTruths_28 rfl rfl ?_
      refine ev_aload_n (pc := 29) (i := 1) dX2_moreTruths_29 rfl rfl ?_
      refine ev_iload_n (pc := 30) (i := 2) dX2_moreTruths_30 rfl rfl ?_
      refine ev_iconst (pc := 31) dX2_moreTruths_31 ?_
      obtain ⟨hs6, hL⟩ := cC_un hL
      obtain ⟨r7, h8, hc9, hL⟩ := cl_un hL
      refine evB_callV_I (pc := 32) (hkf _ _ hc9) dX2_moreTruths_32 mt_Lw_unit st_Lw_unit ml_Lw_61 hs6 (by decide) ⟨_, rfl, rfl⟩ (by omega) rfl rfl (Nat.le_trans sm_z (by decide)) ?_
      refine ev_if_eq (pc := 35) (tgt := 47) dX2_moreTruths_35 rfl hL rfl (fun hL => ?_) (fun hL => ?_)
      · refine ev_iconst (pc := 47) dX2_moreTruths_47 ?_
        exact evB_zret (pc := 48) dX2_moreTruths_48 rfl rfl hL
      · refine ev_aload_n (pc := 38) (i := 0) dX2_moreTruths_38 rfl rfl ?_
        refine ev_aload_n (pc := 39) (i := 1) dX2_moreTruths_39 rfl rfl ?_
        refine ev_iload_n (pc := 40) (i := 2) dX2_moreTruths_40 rfl rfl ?_
        obtain ⟨r10, h11, hc12, hL⟩ := cl_un hL
        refine evB_callV_I (pc := 41) (MB_Lw_moreUnits hkf hc12) dX2_moreTruths_41 mt_Lw_moreUnits st_Lw_moreUnits ml_Lw_64 hs6 (by decide) ⟨_, rfl, rfl⟩ (by omega) rfl rfl (Nat.le_trans sm_z (by decide)) ?_
        refine ev_if_ne (pc := 44) (tgt := 49) dX2_moreTruths_44 rfl hL rfl (fun hL => ?_) (fun hL => ?_)
        · refine ev_iconst (pc := 47) dX2_moreTruths_47 ?_
          exact evB_zret (pc := 48) dX2_moreTruths_48 rfl rfl hL
        · refine ev_aload_n (pc := 49) (i := 0) dX2_moreTruths_49 rfl rfl ?_
          refine ev_bipush (pc := 50) dX2_moreTruths_50 (by decide) ?_
          obtain ⟨r13, h14, hc15, hL⟩ := cl_un hL
          refine evB_callV_V (pc := 52) (M_Lw_emit hc15) dX2_moreTruths_52 mt_Lw_emit st_Lw_emit ml_Lw_57 hs6 (by decide) ⟨_, rfl, rfl⟩ (by omega) rfl rfl (Nat.le_trans sm_z (by decide)) ?_
          refine ev_iinc (pc := 55) dX2_moreTruths_55 rfl (lnl_v rfl rfl) (Nat.le_of_ble_eq_true rfl) ?_
          refine ev_goto (pc := 58) (tgt := 2) dX2_moreTruths_58 rfl ?_
          exact ev_le (lvle_s (lvle_s (lvle_s (lvle_s lvle_z)))) (hk2 _ _ hL)
    · refine ev_iconst (pc := 61) dX2_moreTruths_61 ?_
      exact evB_zret (pc := 62) dX2_moreTruths_62 rfl rfl hL
  · refine ev_iconst (pc := 61) dX2_moreTruths_61 ?_
    exact evB_zret (pc := 62) dX2_moreTruths_62 rfl rfl hL
set_option maxHeartbeats 1000000 in
set_option maxRecDepth 100000 in
theorem KLw_moreTruths_b2 {ω : Wd} {z : Nat → Prop} {d0 : Nat} {kf : Hp × Int × Int × Int × Int → Option (Int × Hp)}  {h h' : Hp} {x0 x1 x2 x3 r : Int} (hkf : ∀ s o, kf s = some o → CtB ω N_Lw_unit d0 [aV ω s.2.1, aV ω s.2.2.1, iV s.2.2.2.1, iV s.2.2.2.2] z s.1 (some (iV o.1)) o.2) (hL : Lw_moreTruths_b2 kf h x0 x1 x2 x3 = some (r, h')) : EvB ω N_Lw_moreTruths (d0 + 62) (QB (some (iV r)) z h') z h 2 [some (aV ω x0), some (aV ω x1), some (iV x2), some (iV x3)] [] := by
  unfold Lw_moreTruths_b2 at hL
  refine itr_link (P := fun (s : Hp × Int × Int × Int × Int) (o : Int × Hp) => EvB ω N_Lw_moreTruths (d0 + 62) (QB (some (iV o.1)) z o.2) z s.1 2 [some (aV ω s.2.1), some (aV ω s.2.2.1), some (iV s.2.2.2.1), some (iV s.2.2.2.2)] []) ?_ _ _ _ hL
  intro k hk s o h9
  have h10 := KLw_moreTruths_b2_body (ω := ω) (z := z) (d0 := d0) (kf := kf) (k2 := k) (h := s.1) (x0 := s.2.1) (x1 := s.2.2.1) (x2 := s.2.2.2.1) (x3 := s.2.2.2.2) (r := o.1) (h' := o.2) hkf
  exact h10 hk h9
set_option maxHeartbeats 1000000 in
set_option maxRecDepth 100000 in
theorem MB_Lw_moreTruths {ω : Wd} {z : Nat → Prop} {d0 : Nat} {kf : Hp × Int × Int × Int × Int → Option (Int × Hp)} {h h' : Hp} {a0 a1 a2 r : Int} (hkf : ∀ s o, kf s = some o → CtB ω N_Lw_unit d0 [aV ω s.2.1, aV ω s.2.2.1, iV s.2.2.2.1, iV s.2.2.2.2] z s.1 (some (iV o.1)) o.2) (hL : Lw_moreTruths kf h a0 a1 a2 = some (r, h')) : CtB ω N_Lw_moreTruths (d0 + 62) [aV ω a0, aV ω a1, iV a2] z h (some (iV r)) h' := by
  unfold Lw_moreTruths at hL
  refine Ct_of (lv := [some (aV ω a0), some (aV ω a1), some (iV a2), none]) (by decide) (Nat.le_trans (sl_1 (cat_aV _ _) (sl_1 (cat_aV _ _) (sl_1 (cat_iV _) sl_z))) (Nat.le_of_ble_eq_true rfl)) (la_1 (cat_aV _ _) (la_1 (cat_aV _ _) (la_1 (cat_iV _) (la_n la_z)))) ?_
  refine ev_iconst (pc := 0) dX2_moreTruths_0 ?_
  refine ev_istore_n (pc := 1) (i := 3) dX2_moreTruths_1 rfl (lnl_v rfl rfl) (Nat.le_of_ble_eq_true rfl) ?_
  exact ev_le (lvle_s (lvle_s (lvle_s (lvle_s lvle_z)))) (KLw_moreTruths_b2 hkf hL)
set_option maxHeartbeats 1000000 in
set_option maxRecDepth 100000 in
theorem MB_Lw_condition {ω : Wd} {z : Nat → Prop} {d0 : Nat} {kf : Hp × Int × Int × Int × Int → Option (Int × Hp)} {h h' : Hp} {a0 a1 a2 a3 r : Int} (hkf : ∀ s o, kf s = some o → CtB ω N_Lw_unit d0 [aV ω s.2.1, aV ω s.2.2.1, iV s.2.2.2.1, iV s.2.2.2.2] z s.1 (some (iV o.1)) o.2) (hL : Lw_condition kf h a0 a1 a2 a3 = some (r, h')) : CtB ω N_Lw_condition (d0 + 63) [aV ω a0, aV ω a1, iV a2, iV a3] z h (some (iV r)) h' := by
  unfold Lw_condition at hL
  refine Ct_of (lv := [some (aV ω a0), some (aV ω a1), some (iV a2), some (iV a3)]) (by decide) (Nat.le_trans (sl_1 (cat_aV _ _) (sl_1 (cat_aV _ _) (sl_1 (cat_iV _) (sl_1 (cat_iV _) sl_z)))) (Nat.le_of_ble_eq_true rfl)) (la_1 (cat_aV _ _) (la_1 (cat_aV _ _) (la_1 (cat_iV _) (la_1 (cat_iV _) la_z)))) ?_
  refine ev_aload_n (pc := 0) (i := 0) dX2_condition_0 rfl rfl ?_
  refine ev_aload_n (pc := 1) (i := 1) dX2_condition_1 rfl rfl ?_
  refine ev_iload_n (pc := 2) (i := 2) dX2_condition_2 rfl rfl ?_
  refine ev_iload_n (pc := 3) (i := 3) dX2_condition_3 rfl rfl ?_
  obtain ⟨hs1, hL⟩ := cC_un hL
  obtain ⟨r2, h3, hc4, hL⟩ := cl_un hL
  refine evB_callV_I (pc := 4) (hkf _ _ hc4) dX2_condition_4 mt_Lw_unit st_Lw_unit ml_Lw_61 hs1 (by decide) ⟨_, rfl, rfl⟩ (by omega) rfl rfl (Nat.le_trans sm_z (by decide)) ?_
  refine ev_if_eq (pc := 7) (tgt := 32) dX2_condition_7 rfl hL rfl (fun hL => ?_) (fun hL => ?_)
  · refine ev_iconst (pc := 32) dX2_condition_32 ?_
    exact evB_zret (pc := 33) dX2_condition_33 rfl rfl hL
  · refine ev_aload_n (pc := 10) (i := 0) dX2_condition_10 rfl rfl ?_
    refine ev_aload_n (pc := 11) (i := 1) dX2_condition_11 rfl rfl ?_
    refine ev_iload_n (pc := 12) (i := 2) dX2_condition_12 rfl rfl ?_
    obtain ⟨r5, h6, hc7, hL⟩ := cl_un hL
    refine evB_callV_I (pc := 13) (MB_Lw_moreUnits hkf hc7) dX2_condition_13 mt_Lw_moreUnits st_Lw_moreUnits ml_Lw_64 hs1 (by decide) ⟨_, rfl, rfl⟩ (by omega) rfl rfl (Nat.le_trans sm_z (by decide)) ?_
    refine ev_if_eq (pc := 16) (tgt := 32) dX2_condition_16 rfl hL rfl (fun hL => ?_) (fun hL => ?_)
    · refine ev_iconst (pc := 32) dX2_condition_32 ?_
      exact evB_zret (pc := 33) dX2_condition_33 rfl rfl hL
    · refine ev_aload_n (pc := 19) (i := 0) dX2_condition_19 rfl rfl ?_
      refine ev_aload_n (pc := 20) (i := 1) dX2_condition_20 rfl rfl ?_
      refine ev_iload_n (pc := 21) (i := 2) dX2_condition_21 rfl rfl ?_
      obtain ⟨r8, h9, hc10, hL⟩ := cl_un hL
      refine evB_callV_I (pc := 22) (MB_Lw_moreTruths hkf hc10) dX2_condition_22 mt_Lw_moreTruths st_Lw_moreTruths ml_Lw_67 hs1 (by decide) ⟨_, rfl, rfl⟩ (by omega) rfl rfl (Nat.le_trans sm_z (by decide)) ?_
      refine ev_if_eq (pc := 25) (tgt := 32) dX2_condition_25 rfl hL rfl (fun hL => ?_) (fun hL => ?_)
      · refine ev_iconst (pc := 32) dX2_condition_32 ?_
        exact evB_zret (pc := 33) dX2_condition_33 rfl rfl hL
      · refine ev_iconst (pc := 28) dX2_condition_28 ?_
        refine ev_goto (pc := 29) (tgt := 33) dX2_condition_29 rfl ?_
        exact evB_zret (pc := 33) dX2_condition_33 rfl rfl hL
set_option maxHeartbeats 1000000 in
set_option maxRecDepth 100000 in
theorem MB_Lw_nested {ω : Wd} {z : Nat → Prop} {d0 : Nat} {kf : Hp × Int × Int × Int × Int → Option (Int × Hp)} {h h' : Hp} {a0 a1 a2 a3 r : Int} (hkf : ∀ s o, kf s = some o → CtB ω N_Lw_unit d0 [aV ω s.2.1, aV ω s.2.2.1, iV s.2.2.2.1, iV s.2.2.2.2] z s.1 (some (iV o.1)) o.2) (hL : Lw_nested kf h a0 a1 a2 a3 = some (r, h')) : CtB ω N_Lw_nested (d0 + 64) [aV ω a0, aV ω a1, iV a2, iV a3] z h (some (iV r)) h' := by
  unfold Lw_nested at hL
  refine Ct_of (lv := [some (aV ω a0), some (aV ω a1), some (iV a2), some (iV a3)]) (by decide) (Nat.le_trans (sl_1 (cat_aV _ _) (sl_1 (cat_aV _ _) (sl_1 (cat_iV _) (sl_1 (cat_iV _) sl_z)))) (Nat.le_of_ble_eq_true rfl)) (la_1 (cat_aV _ _) (la_1 (cat_aV _ _) (la_1 (cat_iV _) (la_1 (cat_iV _) la_z)))) ?_
  refine ev_iload_n (pc := 0) (i := 2) dX2_nested_0 rfl rfl ?_
  refine ev_bipush (pc := 1) dX2_nested_1 (by decide) ?_
  refine ev_icmp_lt (pc := 3) (tgt := 11) dX2_nested_3 rfl hL rfl (fun hL => ?_) (fun hL => ?_)
  · refine ev_aload_n (pc := 11) (i := 1) dX2_nested_11 rfl rfl ?_
    refine ev_dup (pc := 12) dX2_nested_12 (cat_aV _ _) ?_
    obtain ⟨hs1, hL⟩ := cC_un hL
    refine ev_get (pc := 13) (c9 := 8) (k9 := 2) dX2_nested_13 fl_Lw_70 (by decide) hs1 gv8_2 ?_
    refine ev_iconst (pc := 16) dX2_nested_16 ?_
    refine ev_iadd (pc := 17) dX2_nested_17 ?_
    refine evB_putI (pc := 18) (c9 := 8) (k9 := 2) (kI := 2) dX2_nested_18 fl_Lw_70 hs1 (by decide) (fun q hq => by cases hq; rfl) rfl rfl rfl ?_
    refine ev_puG hL (fun h2 hL => ?_)
    refine ev_iload_n (pc := 21) (i := 3) dX2_nested_21 rfl rfl ?_
    refine ev_bipush (pc := 22) dX2_nested_22 (by decide) ?_
    refine ev_icmp_ne (pc := 24) (tgt := 54) dX2_nested_24 rfl hL rfl (fun hL => ?_) (fun hL => ?_)
    · refine ev_aload_n (pc := 27) (i := 0) dX2_nested_27 rfl rfl ?_
      refine ev_aload_n (pc := 28) (i := 1) dX2_nested_28 rfl rfl ?_
      refine ev_iload_n (pc := 29) (i := 2) dX2_nested_29 rfl rfl ?_
      refine ev_iconst (pc := 30) dX2_nested_30 ?_
      refine ev_iadd (pc := 31) dX2_nested_31 ?_
      refine ev_iconst (pc := 32) dX2_nested_32 ?_
      obtain ⟨hs3, hL⟩ := cC_un hL
      obtain ⟨r4, h5, hc6, hL⟩ := cl_un hL
      refine evB_callV_I (pc := 33) (MB_Lw_condition hkf hc6) dX2_nested_33 mt_Lw_condition st_Lw_condition ml_Lw_53 hs3 (by decide) ⟨_, rfl, rfl⟩ (by omega) rfl rfl (Nat.le_trans sm_z (by decide)) ?_
      refine ev_if_eq (pc := 36) (tgt := 52) dX2_nested_36 rfl hL rfl (fun hL => ?_) (fun hL => ?_)
      · refine ev_iconst (pc := 52) dX2_nested_52 ?_
        exact evB_zret (pc := 53) dX2_nested_53 rfl rfl hL
      · refine ev_aload_n (pc := 39) (i := 1) dX2_nested_39 rfl rfl ?_
        refine ev_bipush (pc := 40) dX2_nested_40 (by decide) ?_
        obtain ⟨r7, h8, hc9, hL⟩ := cl_un hL
        refine evB_callV_I (pc := 42) (M_Tp_need hc9) dX2_nested_42 mt_Tp_need st_Tp_need ml_Lw_38 hs1 (by decide) ⟨_, rfl, rfl⟩ (by omega) rfl rfl (Nat.le_trans sm_z (by decide)) ?_
        refine ev_if_eq (pc := 45) (tgt := 52) dX2_nested_45 rfl hL rfl (fun hL => ?_) (fun hL => ?_)
        · refine ev_iconst (pc := 52) dX2_nested_52 ?_
          exact evB_zret (pc := 53) dX2_nested_53 rfl rfl hL
        · refine ev_iconst (pc := 48) dX2_nested_48 ?_
          refine ev_goto (pc := 49) (tgt := 53) dX2_nested_49 rfl ?_
          exact evB_zret (pc := 53) dX2_nested_53 rfl rfl hL
    · refine ev_aload_n (pc := 54) (i := 0) dX2_nested_54 rfl rfl ?_
      refine ev_aload_n (pc := 55) (i := 1) dX2_nested_55 rfl rfl ?_
      refine ev_iload_n (pc := 56) (i := 2) dX2_nested_56 rfl rfl ?_
      refine ev_iconst (pc := 57) dX2_nested_57 ?_
      refine ev_iadd (pc := 58) dX2_nested_58 ?_
      refine ev_iconst (pc := 59) dX2_nested_59 ?_
      obtain ⟨hs10, hL⟩ := cC_un hL
      obtain ⟨r11, h12, hc13, hL⟩ := cl_un hL
      refine evB_callV_I (pc := 60) (hkf _ _ hc13) dX2_nested_60 mt_Lw_unit st_Lw_unit ml_Lw_61 hs10 (by decide) ⟨_, rfl, rfl⟩ (by omega) rfl rfl (Nat.le_trans sm_z (by decide)) ?_
      refine ev_if_ne (pc := 63) (tgt := 68) dX2_nested_63 rfl hL rfl (fun hL => ?_) (fun hL => ?_)
      · refine ev_iconst (pc := 66) dX2_nested_66 ?_
        exact evB_zret (pc := 67) dX2_nested_67 rfl rfl hL
      · refine ev_aload_n (pc := 68) (i := 0) dX2_nested_68 rfl rfl ?_
        refine ev_bipush (pc := 69) dX2_nested_69 (by decide) ?_
        obtain ⟨r14, h15, hc16, hL⟩ := cl_un hL
        refine evB_callV_V (pc := 71) (M_Lw_emit hc16) dX2_nested_71 mt_Lw_emit st_Lw_emit ml_Lw_57 hs10 (by decide) ⟨_, rfl, rfl⟩ (by omega) rfl rfl (Nat.le_trans sm_z (by decide)) ?_
        refine ev_iconst (pc := 74) dX2_nested_74 ?_
        exact evB_zret (pc := 75) dX2_nested_75 rfl rfl hL
  · refine ev_aload_n (pc := 6) (i := 1) dX2_nested_6 rfl rfl ?_
    obtain ⟨hs17, hL⟩ := cC_un hL
    obtain ⟨r18, h19, hc20, hL⟩ := cl_un hL
    refine evB_callV_I (pc := 7) (M_Tp_fail hc20) dX2_nested_7 mt_Tp_fail st_Tp_fail ml_Lw_42 hs17 (by decide) ⟨_, rfl, rfl⟩ (by omega) rfl rfl (Nat.le_trans sm_z (by decide)) ?_
    exact evB_zret (pc := 10) dX2_nested_10 rfl rfl hL
set_option maxHeartbeats 1000000 in
set_option maxRecDepth 100000 in
theorem KLw_unit_b24 {ω : Wd} {z : Nat → Prop} {d0 : Nat} {kf : Hp × Int × Int × Int × Int → Option (Int × Hp)}  {h h' : Hp} {x0 x1 x2 x4 r : Int} (hkf : ∀ s o, kf s = some o → CtB ω N_Lw_unit d0 [aV ω s.2.1, aV ω s.2.2.1, iV s.2.2.2.1, iV s.2.2.2.2] z s.1 (some (iV o.1)) o.2) (hL : Lw_unit_b24 kf h x0 x1 x2 x4 = some (r, h')) : EvB ω N_Lw_unit (d0 + 65) (QB (some (iV r)) z h') z h 24 [some (aV ω x0), some (aV ω x1), some (iV x2), none, some (iV x4), none] [] := by
  unfold Lw_unit_b24 at hL
  refine ev_aload_n (pc := 24) (i := 0) dX2_unit_24 rfl rfl ?_
  refine ev_aload_n (pc := 25) (i := 1) dX2_unit_25 rfl rfl ?_
  refine ev_iload_n (pc := 26) (i := 2) dX2_unit_26 rfl rfl ?_
  refine ev_iload (pc := 27) dX2_unit_27 rfl ?_
  obtain ⟨hs5, hL⟩ := cC_un hL
  obtain ⟨r6, h7, hc8, hL⟩ := cl_un hL
  refine evB_callV_I (pc := 29) (MB_Lw_nested hkf hc8) dX2_unit_29 mt_Lw_nested st_Lw_nested ml_Lw_73 hs5 (by decide) ⟨_, rfl, rfl⟩ (by omega) rfl rfl (Nat.le_trans sm_z (by decide)) ?_
  exact evB_zret (pc := 32) dX2_unit_32 rfl rfl hL
set_option maxHeartbeats 1000000 in
set_option maxRecDepth 100000 in
theorem KLw_unit_b48 {ω : Wd} {z : Nat → Prop} {d0 : Nat} {kf : Hp × Int × Int × Int × Int → Option (Int × Hp)}  {h h' : Hp} {x0 x1 x2 r : Int} (hkf : ∀ s o, kf s = some o → CtB ω N_Lw_unit d0 [aV ω s.2.1, aV ω s.2.2.1, iV s.2.2.2.1, iV s.2.2.2.2] z s.1 (some (iV o.1)) o.2) (hL : Lw_unit_b48 kf h x0 x1 x2 = some (r, h')) : EvB ω N_Lw_unit (d0 + 65) (QB (some (iV r)) z h') z h 48 [some (aV ω x0), some (aV ω x1), some (iV x2), none, none, none] [] := by
  unfold Lw_unit_b48 at hL
  refine ev_aload_n (pc := 48) (i := 1) dX2_unit_48 rfl rfl ?_
  obtain ⟨hs13, hL⟩ := cC_un hL
  obtain ⟨r14, h15, hc16, hL⟩ := cl_un hL
  refine evB_callV_I (pc := 49) (M_Tp_next hc16) dX2_unit_49 mt_Tp_next st_Tp_next ml_Lw_34 hs13 (by decide) ⟨_, rfl, rfl⟩ (by omega) rfl rfl (Nat.le_trans sm_z (by decide)) ?_
  refine ev_istore (pc := 52) dX2_unit_52 (lnl_n rfl) (Nat.le_of_ble_eq_true rfl) ?_
  refine ev_iload (pc := 54) dX2_unit_54 rfl ?_
  obtain ⟨r17, h18, hc19, hL⟩ := cl_un hL
  refine evB_callS_I (pc := 56) (M_Lw_isComparing hc19) dX2_unit_56 mt_Lw_isComparing st_Lw_isComparing ml_Lw_50 (by omega) rfl rfl (Nat.le_trans sm_z (by decide)) ?_
  refine ev_if_ne (pc := 59) (tgt := 67) dX2_unit_59 rfl hL rfl (fun hL => ?_) (fun hL => ?_)
  · refine ev_aload_n (pc := 62) (i := 1) dX2_unit_62 rfl rfl ?_
    obtain ⟨r20, h21, hc22, hL⟩ := cl_un hL
    refine evB_callV_I (pc := 63) (M_Tp_fail hc22) dX2_unit_63 mt_Tp_fail st_Tp_fail ml_Lw_42 hs13 (by decide) ⟨_, rfl, rfl⟩ (by omega) rfl rfl (Nat.le_trans sm_z (by decide)) ?_
    exact evB_zret (pc := 66) dX2_unit_66 rfl rfl hL
  · refine ev_aload_n (pc := 67) (i := 1) dX2_unit_67 rfl rfl ?_
    refine ev_dup (pc := 68) dX2_unit_68 (cat_aV _ _) ?_
    refine ev_get (pc := 69) (c9 := 8) (k9 := 2) dX2_unit_69 fl_Lw_70 (by decide) hs13 gv8_2 ?_
    refine ev_iconst (pc := 72) dX2_unit_72 ?_
    refine ev_iadd (pc := 73) dX2_unit_73 ?_
    refine evB_putI (pc := 74) (c9 := 8) (k9 := 2) (kI := 2) dX2_unit_74 fl_Lw_70 hs13 (by decide) (fun q hq => by cases hq; rfl) rfl rfl rfl ?_
    refine ev_puG hL (fun h23 hL => ?_)
    refine ev_aload_n (pc := 77) (i := 0) dX2_unit_77 rfl rfl ?_
    refine ev_aload_n (pc := 78) (i := 1) dX2_unit_78 rfl rfl ?_
    refine ev_iload_n (pc := 79) (i := 2) dX2_unit_79 rfl rfl ?_
    obtain ⟨hs24, hL⟩ := cC_un hL
    obtain ⟨r25, h26, hc27, hL⟩ := cl_un hL
    refine evB_callV_I (pc := 80) (M_Lw_sum hc27) dX2_unit_80 mt_Lw_sum st_Lw_sum ml_Lw_46 hs24 (by decide) ⟨_, rfl, rfl⟩ (by omega) rfl rfl (Nat.le_trans sm_z (by decide)) ?_
    refine ev_if_ne (pc := 83) (tgt := 88) dX2_unit_83 rfl hL rfl (fun hL => ?_) (fun hL => ?_)
    · refine ev_iconst (pc := 86) dX2_unit_86 ?_
      exact evB_zret (pc := 87) dX2_unit_87 rfl rfl hL
    · refine ev_aload_n (pc := 88) (i := 0) dX2_unit_88 rfl rfl ?_
      refine ev_iload (pc := 89) dX2_unit_89 rfl ?_
      obtain ⟨r28, h29, hc30, hL⟩ := cl_un hL
      refine evB_callV_V (pc := 91) (M_Lw_emit hc30) dX2_unit_91 mt_Lw_emit st_Lw_emit ml_Lw_57 hs24 (by decide) ⟨_, rfl, rfl⟩ (by omega) rfl rfl (Nat.le_trans sm_z (by decide)) ?_
      refine ev_iconst (pc := 94) dX2_unit_94 ?_
      exact evB_zret (pc := 95) dX2_unit_95 rfl rfl hL
set_option maxHeartbeats 1000000 in
set_option maxRecDepth 100000 in
theorem KLw_unit_b33 {ω : Wd} {z : Nat → Prop} {d0 : Nat} {kf : Hp × Int × Int × Int × Int → Option (Int × Hp)}  {h h' : Hp} {x0 x1 x2 x3 r : Int} (hkf : ∀ s o, kf s = some o → CtB ω N_Lw_unit d0 [aV ω s.2.1, aV ω s.2.2.1, iV s.2.2.2.1, iV s.2.2.2.2] z s.1 (some (iV o.1)) o.2) (hL : Lw_unit_b33 kf h x0 x1 x2 x3 = some (r, h')) : EvB ω N_Lw_unit (d0 + 65) (QB (some (iV r)) z h') z h 33 [some (aV ω x0), some (aV ω x1), some (iV x2), some (iV x3), none, none] [] := by
  unfold Lw_unit_b33 at hL
  refine ev_iload_n (pc := 33) (i := 3) dX2_unit_33 rfl rfl ?_
  refine ev_if_ne (pc := 34) (tgt := 48) dX2_unit_34 rfl hL rfl (fun hL => ?_) (fun hL => ?_)
  · refine ev_aload_n (pc := 37) (i := 0) dX2_unit_37 rfl rfl ?_
    refine ev_aload_n (pc := 38) (i := 1) dX2_unit_38 rfl rfl ?_
    refine ev_iload_n (pc := 39) (i := 2) dX2_unit_39 rfl rfl ?_
    obtain ⟨hs9, hL⟩ := cC_un hL
    obtain ⟨r10, h11, hc12, hL⟩ := cl_un hL
    refine evB_callV_I (pc := 40) (M_Lw_sum hc12) dX2_unit_40 mt_Lw_sum st_Lw_sum ml_Lw_46 hs9 (by decide) ⟨_, rfl, rfl⟩ (by omega) rfl rfl (Nat.le_trans sm_z (by decide)) ?_
    refine ev_if_ne (pc := 43) (tgt := 48) dX2_unit_43 rfl hL rfl (fun hL => ?_) (fun hL => ?_)
    · refine ev_iconst (pc := 46) dX2_unit_46 ?_
      exact evB_zret (pc := 47) dX2_unit_47 rfl rfl hL
    · exact ev_le (lvle_s (lvle_s (lvle_s (lvle_n (lvle_n (lvle_n lvle_z)))))) (KLw_unit_b48 hkf hL)
  · exact ev_le (lvle_s (lvle_s (lvle_s (lvle_n (lvle_n (lvle_n lvle_z)))))) (KLw_unit_b48 hkf hL)
set_option maxHeartbeats 1000000 in
set_option maxRecDepth 100000 in
theorem MB_Lw_unit {ω : Wd} {z : Nat → Prop} {d0 : Nat} {kf : Hp × Int × Int × Int × Int → Option (Int × Hp)} {h h' : Hp} {a0 a1 a2 a3 r : Int} (hkf : ∀ s o, kf s = some o → CtB ω N_Lw_unit d0 [aV ω s.2.1, aV ω s.2.2.1, iV s.2.2.2.1, iV s.2.2.2.2] z s.1 (some (iV o.1)) o.2) (hL : Lw_unit_body kf h a0 a1 a2 a3 = some (r, h')) : CtB ω N_Lw_unit (d0 + 65) [aV ω a0, aV ω a1, iV a2, iV a3] z h (some (iV r)) h' := by
  unfold Lw_unit_body at hL
  refine Ct_of (lv := [some (aV ω a0), some (aV ω a1), some (iV a2), some (iV a3), none, none]) (by decide) (Nat.le_trans (sl_1 (cat_aV _ _) (sl_1 (cat_aV _ _) (sl_1 (cat_iV _) (sl_1 (cat_iV _) sl_z)))) (Nat.le_of_ble_eq_true rfl)) (la_1 (cat_aV _ _) (la_1 (cat_aV _ _) (la_1 (cat_iV _) (la_1 (cat_iV _) (la_n (la_n la_z)))))) ?_
  refine ev_aload_n (pc := 0) (i := 1) dX2_unit_0 rfl rfl ?_
  obtain ⟨hs1, hL⟩ := cC_un hL
  obtain ⟨r2, h3, hc4, hL⟩ := cl_un hL
  refine evB_callV_I (pc := 1) (M_Tp_next hc4) dX2_unit_1 mt_Tp_next st_Tp_next ml_Lw_34 hs1 (by decide) ⟨_, rfl, rfl⟩ (by omega) rfl rfl (Nat.le_trans sm_z (by decide)) ?_
  refine ev_istore (pc := 4) dX2_unit_4 (lnl_v rfl rfl) (Nat.le_of_ble_eq_true rfl) ?_
  refine ev_iload_n (pc := 6) (i := 3) dX2_unit_6 rfl rfl ?_
  refine ev_if_ne (pc := 7) (tgt := 33) dX2_unit_7 rfl hL rfl (fun hL => ?_) (fun hL => ?_)
  · refine ev_iload (pc := 10) dX2_unit_10 rfl ?_
    refine ev_bipush (pc := 12) dX2_unit_12 (by decide) ?_
    refine ev_icmp_eq (pc := 14) (tgt := 24) dX2_unit_14 rfl hL rfl (fun hL => ?_) (fun hL => ?_)
    · exact ev_le (lvle_s (lvle_s (lvle_s (lvle_n (lvle_s (lvle_n lvle_z)))))) (KLw_unit_b24 hkf hL)
    · refine ev_iload (pc := 17) dX2_unit_17 rfl ?_
      refine ev_bipush (pc := 19) dX2_unit_19 (by decide) ?_
      refine ev_icmp_ne (pc := 21) (tgt := 33) dX2_unit_21 rfl hL rfl (fun hL => ?_) (fun hL => ?_)
      · exact ev_le (lvle_s (lvle_s (lvle_s (lvle_n (lvle_s (lvle_n lvle_z)))))) (KLw_unit_b24 hkf hL)
      · exact ev_le (lvle_s (lvle_s (lvle_s (lvle_s (lvle_n (lvle_n lvle_z)))))) (KLw_unit_b33 hkf hL)
  · exact ev_le (lvle_s (lvle_s (lvle_s (lvle_s (lvle_n (lvle_n lvle_z)))))) (KLw_unit_b33 hkf hL)
set_option maxHeartbeats 1000000 in
set_option maxRecDepth 100000 in
theorem MR_Lw_unit {ω : Wd} {z : Nat → Prop} : ∀ (n : Nat) (s : Hp × Int × Int × Int × Int) (o : Int × Hp), itr (fun k s => Lw_unit_body k s.1 s.2.1 s.2.2.1 s.2.2.2.1 s.2.2.2.2) n s = some o → CtB ω N_Lw_unit (n * 65) [aV ω s.2.1, aV ω s.2.2.1, iV s.2.2.2.1, iV s.2.2.2.2] z s.1 (some (iV o.1)) o.2 := by
  refine itr_rec (P := fun (n : Nat) (s : Hp × Int × Int × Int × Int) (o : Int × Hp) => CtB ω N_Lw_unit (n * 65) [aV ω s.2.1, aV ω s.2.2.1, iV s.2.2.2.1, iV s.2.2.2.2] z s.1 (some (iV o.1)) o.2) (fun n k hk s o h9 => ?_)
  have := MB_Lw_unit (ω := ω) (z := z) (h := s.1) (a0 := s.2.1) (a1 := s.2.2.1) (a2 := s.2.2.2.1) (a3 := s.2.2.2.2) (r := o.1) (h' := o.2) hk h9
  rwa [show n * 65 + 65 = (n + 1) * 65 from by omega] at this
set_option maxHeartbeats 1000000 in
set_option maxRecDepth 100000 in
theorem M_Lw_unit {ω : Wd} {z : Nat → Prop} {h h' : Hp} {a0 a1 a2 a3 r : Int} (hL : Lw_unit h a0 a1 a2 a3 = some (r, h')) : CtB ω N_Lw_unit 780 [aV ω a0, aV ω a1, iV a2, iV a3] z h (some (iV r)) h' := by
  unfold Lw_unit Lw_unit_f at hL
  exact MR_Lw_unit RF (h, a0, a1, a2, a3) (r, h') hL
set_option maxRecDepth 100000 in
theorem M_Lw_nested {ω : Wd} {z : Nat → Prop} {h h' : Hp} {a0 a1 a2 a3 r : Int} (hL : Lw_nested Lw_unit_f h a0 a1 a2 a3 = some (r, h')) : CtB ω N_Lw_nested 844 [aV ω a0, aV ω a1, iV a2, iV a3] z h (some (iV r)) h' := MB_Lw_nested (d0 := 780) (fun s o g => MR_Lw_unit RF s o (by unfold Lw_unit_f at g; exact g)) hL
set_option maxRecDepth 100000 in
theorem M_Lw_moreUnits {ω : Wd} {z : Nat → Prop} {h h' : Hp} {a0 a1 a2 r : Int} (hL : Lw_moreUnits Lw_unit_f h a0 a1 a2 = some (r, h')) : CtB ω N_Lw_moreUnits 841 [aV ω a0, aV ω a1, iV a2] z h (some (iV r)) h' := MB_Lw_moreUnits (d0 := 780) (fun s o g => MR_Lw_unit RF s o (by unfold Lw_unit_f at g; exact g)) hL
set_option maxRecDepth 100000 in
theorem M_Lw_moreTruths {ω : Wd} {z : Nat → Prop} {h h' : Hp} {a0 a1 a2 r : Int} (hL : Lw_moreTruths Lw_unit_f h a0 a1 a2 = some (r, h')) : CtB ω N_Lw_moreTruths 842 [aV ω a0, aV ω a1, iV a2] z h (some (iV r)) h' := MB_Lw_moreTruths (d0 := 780) (fun s o g => MR_Lw_unit RF s o (by unfold Lw_unit_f at g; exact g)) hL
set_option maxRecDepth 100000 in
theorem M_Lw_condition {ω : Wd} {z : Nat → Prop} {h h' : Hp} {a0 a1 a2 a3 r : Int} (hL : Lw_condition Lw_unit_f h a0 a1 a2 a3 = some (r, h')) : CtB ω N_Lw_condition 843 [aV ω a0, aV ω a1, iV a2, iV a3] z h (some (iV r)) h' := MB_Lw_condition (d0 := 780) (fun s o g => MR_Lw_unit RF s o (by unfold Lw_unit_f at g; exact g)) hL
set_option maxHeartbeats 1000000 in
set_option maxRecDepth 100000 in
theorem KLw_clause_b110 {ω : Wd} {z : Nat → Prop}  {h h' : Hp} {x0 r : Int}  (hL : Lw_clause_b110 h x0 = some (r, h')) : EvB ω N_Lw_clause 844 (QB (some (iV r)) z h') z h 110 [some (aV ω x0), none, none, none] [] := by
  unfold Lw_clause_b110 at hL
  refine ev_aload_n (pc := 110) (i := 0) dX2_clause_110 rfl rfl ?_
  refine ev_bipush (pc := 111) dX2_clause_111 (by decide) ?_
  obtain ⟨hs25, hL⟩ := cC_un hL
  obtain ⟨r26, h27, hc28, hL⟩ := cl_un hL
  refine evB_callV_V (pc := 113) (M_Lw_emit hc28) dX2_clause_113 mt_Lw_emit st_Lw_emit ml_Lw_57 hs25 (by decide) ⟨_, rfl, rfl⟩ (Nat.le_of_ble_eq_true rfl) rfl rfl (Nat.le_trans sm_z (by decide)) ?_
  refine ev_iconst (pc := 116) dX2_clause_116 ?_
  exact evB_zret (pc := 117) dX2_clause_117 rfl rfl hL
set_option maxHeartbeats 1000000 in
set_option maxRecDepth 100000 in
theorem KLw_clause_b72 {ω : Wd} {z : Nat → Prop}  {h h' : Hp} {x0 x1 x3 r : Int}  (hL : Lw_clause_b72 h x0 x1 x3 = some (r, h')) : EvB ω N_Lw_clause 844 (QB (some (iV r)) z h') z h 72 [some (aV ω x0), some (aV ω x1), none, some (iV x3)] [] := by
  unfold Lw_clause_b72 at hL
  refine ev_aload_n (pc := 72) (i := 0) dX2_clause_72 rfl rfl ?_
  refine ev_aload_n (pc := 73) (i := 1) dX2_clause_73 rfl rfl ?_
  refine ev_iconst (pc := 74) dX2_clause_74 ?_
  refine ev_iload_n (pc := 75) (i := 3) dX2_clause_75 rfl rfl ?_
  obtain ⟨hs11, hL⟩ := cC_un hL
  obtain ⟨r12, h13, hc14, hL⟩ := cl_un hL
  refine evB_callV_I (pc := 76) (M_Lw_condition hc14) dX2_clause_76 mt_Lw_condition st_Lw_condition ml_Lw_53 hs11 (by decide) ⟨_, rfl, rfl⟩ (Nat.le_of_ble_eq_true rfl) rfl rfl (Nat.le_trans sm_z (by decide)) ?_
  refine ev_if_eq (pc := 79) (tgt := 91) dX2_clause_79 rfl hL rfl (fun hL => ?_) (fun hL => ?_)
  · refine ev_iconst (pc := 91) dX2_clause_91 ?_
    exact evB_zret (pc := 92) dX2_clause_92 rfl rfl hL
  · refine ev_aload_n (pc := 82) (i := 1) dX2_clause_82 rfl rfl ?_
    refine ev_bipush (pc := 83) dX2_clause_83 (by decide) ?_
    obtain ⟨hs15, hL⟩ := cC_un hL
    obtain ⟨r16, h17, hc18, hL⟩ := cl_un hL
    refine evB_callV_I (pc := 85) (M_Tp_need hc18) dX2_clause_85 mt_Tp_need st_Tp_need ml_Lw_38 hs15 (by decide) ⟨_, rfl, rfl⟩ (Nat.le_of_ble_eq_true rfl) rfl rfl (Nat.le_trans sm_z (by decide)) ?_
    refine ev_if_ne (pc := 88) (tgt := 93) dX2_clause_88 rfl hL rfl (fun hL => ?_) (fun hL => ?_)
    · refine ev_iconst (pc := 91) dX2_clause_91 ?_
      exact evB_zret (pc := 92) dX2_clause_92 rfl rfl hL
    · refine ev_aload_n (pc := 93) (i := 0) dX2_clause_93 rfl rfl ?_
      refine ev_bipush (pc := 94) dX2_clause_94 (by decide) ?_
      obtain ⟨r19, h20, hc21, hL⟩ := cl_un hL
      refine evB_callV_V (pc := 96) (M_Lw_emit hc21) dX2_clause_96 mt_Lw_emit st_Lw_emit ml_Lw_57 hs11 (by decide) ⟨_, rfl, rfl⟩ (Nat.le_of_ble_eq_true rfl) rfl rfl (Nat.le_trans sm_z (by decide)) ?_
      refine ev_aload_n (pc := 99) (i := 0) dX2_clause_99 rfl rfl ?_
      refine ev_aload_n (pc := 100) (i := 1) dX2_clause_100 rfl rfl ?_
      refine ev_iconst (pc := 101) dX2_clause_101 ?_
      obtain ⟨r22, h23, hc24, hL⟩ := cl_un hL
      refine evB_callV_I (pc := 102) (M_Lw_sum hc24) dX2_clause_102 mt_Lw_sum st_Lw_sum ml_Lw_46 hs11 (by decide) ⟨_, rfl, rfl⟩ (Nat.le_of_ble_eq_true rfl) rfl rfl (Nat.le_trans sm_z (by decide)) ?_
      refine ev_if_ne (pc := 105) (tgt := 110) dX2_clause_105 rfl hL rfl (fun hL => ?_) (fun hL => ?_)
      · refine ev_iconst (pc := 108) dX2_clause_108 ?_
        exact evB_zret (pc := 109) dX2_clause_109 rfl rfl hL
      · exact ev_le (lvle_s (lvle_n (lvle_n (lvle_n lvle_z)))) (KLw_clause_b110  hL)
set_option maxHeartbeats 1000000 in
set_option maxRecDepth 100000 in
theorem KLw_clause_b58 {ω : Wd} {z : Nat → Prop}  {h h' : Hp} {x0 x1 x3 r : Int}  (hL : Lw_clause_b58 h x0 x1 x3 = some (r, h')) : EvB ω N_Lw_clause 844 (QB (some (iV r)) z h') z h 58 [some (aV ω x0), some (aV ω x1), none, some (iV x3)] [] := by
  unfold Lw_clause_b58 at hL
  refine ev_iload_n (pc := 58) (i := 3) dX2_clause_58 rfl rfl ?_
  refine ev_if_eq (pc := 59) (tgt := 72) dX2_clause_59 rfl hL rfl (fun hL => ?_) (fun hL => ?_)
  · exact ev_le (lvle_s (lvle_s (lvle_n (lvle_s lvle_z)))) (KLw_clause_b72  hL)
  · refine ev_aload_n (pc := 62) (i := 1) dX2_clause_62 rfl rfl ?_
    obtain ⟨hs29, hL⟩ := cC_un hL
    obtain ⟨r30, h31, hc32, hL⟩ := cl_un hL
    refine evB_callV_I (pc := 63) (M_Tp_next hc32) dX2_clause_63 mt_Tp_next st_Tp_next ml_Lw_34 hs29 (by decide) ⟨_, rfl, rfl⟩ (Nat.le_of_ble_eq_true rfl) rfl rfl (Nat.le_trans sm_z (by decide)) ?_
    obtain ⟨r33, h34, hc35, hL⟩ := cl_un hL
    refine evB_callS_I (pc := 66) (M_Lw_isComparing hc35) dX2_clause_66 mt_Lw_isComparing st_Lw_isComparing ml_Lw_50 (Nat.le_of_ble_eq_true rfl) rfl rfl (Nat.le_trans sm_z (by decide)) ?_
    refine ev_if_eq (pc := 69) (tgt := 110) dX2_clause_69 rfl hL rfl (fun hL => ?_) (fun hL => ?_)
    · exact ev_le (lvle_s (lvle_n (lvle_n (lvle_n lvle_z)))) (KLw_clause_b110  hL)
    · exact ev_le (lvle_s (lvle_s (lvle_n (lvle_s lvle_z)))) (KLw_clause_b72  hL)
set_option maxHeartbeats 1000000 in
set_option maxRecDepth 100000 in
theorem KLw_clause_b42 {ω : Wd} {z : Nat → Prop}  {h h' : Hp} {x0 x1 y0 r : Int}  (hL : Lw_clause_b42 h x0 x1 y0 = some (r, h')) : EvB ω N_Lw_clause 844 (QB (some (iV r)) z h') z h 42 [some (aV ω x0), some (aV ω x1), none, none] [iV y0] := by
  unfold Lw_clause_b42 at hL
  refine ev_istore_n (pc := 42) (i := 3) dX2_clause_42 rfl (lnl_n rfl) (Nat.le_of_ble_eq_true rfl) ?_
  refine ev_iload_n (pc := 43) (i := 3) dX2_clause_43 rfl rfl ?_
  refine ev_if_eq (pc := 44) (tgt := 58) dX2_clause_44 rfl hL rfl (fun hL => ?_) (fun hL => ?_)
  · exact ev_le (lvle_s (lvle_s (lvle_n (lvle_s lvle_z)))) (KLw_clause_b58  hL)
  · refine ev_aload_n (pc := 47) (i := 0) dX2_clause_47 rfl rfl ?_
    refine ev_aload_n (pc := 48) (i := 1) dX2_clause_48 rfl rfl ?_
    refine ev_iconst (pc := 49) dX2_clause_49 ?_
    obtain ⟨hs36, hL⟩ := cC_un hL
    obtain ⟨r37, h38, hc39, hL⟩ := cl_un hL
    refine evB_callV_I (pc := 50) (M_Lw_sum hc39) dX2_clause_50 mt_Lw_sum st_Lw_sum ml_Lw_46 hs36 (by decide) ⟨_, rfl, rfl⟩ (Nat.le_of_ble_eq_true rfl) rfl rfl (Nat.le_trans sm_z (by decide)) ?_
    refine ev_if_ne (pc := 53) (tgt := 58) dX2_clause_53 rfl hL rfl (fun hL => ?_) (fun hL => ?_)
    · refine ev_iconst (pc := 56) dX2_clause_56 ?_
      exact evB_zret (pc := 57) dX2_clause_57 rfl rfl hL
    · exact ev_le (lvle_s (lvle_s (lvle_n (lvle_s lvle_z)))) (KLw_clause_b58  hL)
set_option maxHeartbeats 1000000 in
set_option maxRecDepth 100000 in
theorem M_Lw_clause {ω : Wd} {z : Nat → Prop} {h h' : Hp} {a0 a1 r : Int}  (hL : Lw_clause h a0 a1 = some (r, h')) : CtB ω N_Lw_clause 844 [aV ω a0, aV ω a1] z h (some (iV r)) h' := by
  unfold Lw_clause at hL
  refine Ct_of (lv := [some (aV ω a0), some (aV ω a1), none, none]) (by decide) (Nat.le_trans (sl_1 (cat_aV _ _) (sl_1 (cat_aV _ _) sl_z)) (Nat.le_of_ble_eq_true rfl)) (la_1 (cat_aV _ _) (la_1 (cat_aV _ _) (la_n (la_n la_z)))) ?_
  refine ev_aload_n (pc := 0) (i := 1) dX2_clause_0 rfl rfl ?_
  refine ev_bipush (pc := 1) dX2_clause_1 (by decide) ?_
  obtain ⟨hs1, hL⟩ := cC_un hL
  obtain ⟨r2, h3, hc4, hL⟩ := cl_un hL
  refine evB_callV_I (pc := 3) (M_Tp_need hc4) dX2_clause_3 mt_Tp_need st_Tp_need ml_Lw_38 hs1 (by decide) ⟨_, rfl, rfl⟩ (Nat.le_of_ble_eq_true rfl) rfl rfl (Nat.le_trans sm_z (by decide)) ?_
  refine ev_if_eq (pc := 6) (tgt := 18) dX2_clause_6 rfl hL rfl (fun hL => ?_) (fun hL => ?_)
  · refine ev_iconst (pc := 18) dX2_clause_18 ?_
    exact evB_zret (pc := 19) dX2_clause_19 rfl rfl hL
  · refine ev_aload_n (pc := 9) (i := 1) dX2_clause_9 rfl rfl ?_
    refine ev_bipush (pc := 10) dX2_clause_10 (by decide) ?_
    obtain ⟨r5, h6, hc7, hL⟩ := cl_un hL
    refine evB_callV_I (pc := 12) (M_Tp_need hc7) dX2_clause_12 mt_Tp_need st_Tp_need ml_Lw_38 hs1 (by decide) ⟨_, rfl, rfl⟩ (Nat.le_of_ble_eq_true rfl) rfl rfl (Nat.le_trans sm_z (by decide)) ?_
    refine ev_if_ne (pc := 15) (tgt := 20) dX2_clause_15 rfl hL rfl (fun hL => ?_) (fun hL => ?_)
    · refine ev_iconst (pc := 18) dX2_clause_18 ?_
      exact evB_zret (pc := 19) dX2_clause_19 rfl rfl hL
    · refine ev_aload_n (pc := 20) (i := 1) dX2_clause_20 rfl rfl ?_
      obtain ⟨r8, h9, hc10, hL⟩ := cl_un hL
      refine evB_callV_I (pc := 21) (M_Tp_next hc10) dX2_clause_21 mt_Tp_next st_Tp_next ml_Lw_34 hs1 (by decide) ⟨_, rfl, rfl⟩ (Nat.le_of_ble_eq_true rfl) rfl rfl (Nat.le_trans sm_z (by decide)) ?_
      refine ev_istore_n (pc := 24) (i := 2) dX2_clause_24 rfl (lnl_v (cat_aV _ _) rfl) (Nat.le_of_ble_eq_true rfl) ?_
      refine ev_iload_n (pc := 25) (i := 2) dX2_clause_25 rfl rfl ?_
      refine ev_bipush (pc := 26) dX2_clause_26 (by decide) ?_
      refine ev_icmp_eq (pc := 28) (tgt := 41) dX2_clause_28 rfl hL rfl (fun hL => ?_) (fun hL => ?_)
      · refine ev_iconst (pc := 41) dX2_clause_41 ?_
        exact ev_le (lvle_s (lvle_s (lvle_n (lvle_n lvle_z)))) (KLw_clause_b42  hL)
      · refine ev_iload_n (pc := 31) (i := 2) dX2_clause_31 rfl rfl ?_
        refine ev_bipush (pc := 32) dX2_clause_32 (by decide) ?_
        refine ev_icmp_eq (pc := 34) (tgt := 41) dX2_clause_34 rfl hL rfl (fun hL => ?_) (fun hL => ?_)
        · refine ev_iconst (pc := 41) dX2_clause_41 ?_
          exact ev_le (lvle_s (lvle_s (lvle_n (lvle_n lvle_z)))) (KLw_clause_b42  hL)
        · refine ev_iconst (pc := 37) dX2_clause_37 ?_
          refine ev_goto (pc := 38) (tgt := 42) dX2_clause_38 rfl ?_
          exact ev_le (lvle_s (lvle_s (lvle_n (lvle_n lvle_z)))) (KLw_clause_b42  hL)
set_option maxHeartbeats 1000000 in
set_option maxRecDepth 100000 in
theorem KLw_read_b11_body {ω : Wd} {z : Nat → Prop}  {k11 : Hp × Int × Int × Int → Option (Int × Hp)} {h h' : Hp} {x0 x1 x2 r : Int}  (hk11 : ∀ s o, k11 s = some o → EvB ω N_Lw_read 845 (QB (some (iV o.1)) z o.2) z s.1 11 [some (aV ω s.2.1), some (aV ω s.2.2.1), some (iV s.2.2.2)] []) (hL : Lw_read_b11_body  k11 h x0 x1 x2 = some (r, h')) : EvB ω N_Lw_read 845 (QB (some (iV r)) z h') z h 11 [some (aV ω x0), some (aV ω x1), some (iV x2)] [] := by
  unfold Lw_read_b11_body at hL
  refine ev_iload_n (pc := 11) (i := 2) dX2_read_11 rfl rfl ?_
  refine ev_sipush (pc := 12) dX2_read_12 (by decide) ?_
  refine ev_icmp_gt (pc := 15) (tgt := 54) dX2_read_15 rfl hL rfl (fun hL => ?_) (fun hL => ?_)
  · refine ev_aload_n (pc := 54) (i := 1) dX2_read_54 rfl rfl ?_
    obtain ⟨hs7, hL⟩ := cC_un hL
    obtain ⟨r8, h9, hc10, hL⟩ := cl_un hL
    refine evB_callV_I (pc := 55) (M_Tp_fail hc10) dX2_read_55 mt_Tp_fail st_Tp_fail ml_Lw_42 hs7 (by decide) ⟨_, rfl, rfl⟩ (Nat.le_of_ble_eq_true rfl) rfl rfl (Nat.le_trans sm_z (by decide)) ?_
    exact evB_zret (pc := 58) dX2_read_58 rfl rfl hL
  · refine ev_aload_n (pc := 18) (i := 0) dX2_read_18 rfl rfl ?_
    refine ev_aload_n (pc := 19) (i := 1) dX2_read_19 rfl rfl ?_
    obtain ⟨hs11, hL⟩ := cC_un hL
    obtain ⟨r12, h13, hc14, hL⟩ := cl_un hL
    refine evB_callV_I (pc := 20) (M_Lw_clause hc14) dX2_read_20 mt_Lw_clause st_Lw_clause ml_Lw_30 hs11 (by decide) ⟨_, rfl, rfl⟩ (Nat.le_of_ble_eq_true rfl) rfl rfl (Nat.le_trans sm_z (by decide)) ?_
    refine ev_if_ne (pc := 23) (tgt := 28) dX2_read_23 rfl hL rfl (fun hL => ?_) (fun hL => ?_)
    · refine ev_iconst (pc := 26) dX2_read_26 ?_
      exact evB_zret (pc := 27) dX2_read_27 rfl rfl hL
    · refine ev_aload_n (pc := 28) (i := 1) dX2_read_28 rfl rfl ?_
      obtain ⟨hs15, hL⟩ := cC_un hL
      obtain ⟨r16, h17, hc18, hL⟩ := cl_un hL
      refine evB_callV_I (pc := 29) (M_Tp_next hc18) dX2_read_29 mt_Tp_next st_Tp_next ml_Lw_34 hs15 (by decide) ⟨_, rfl, rfl⟩ (Nat.le_of_ble_eq_true rfl) rfl rfl (Nat.le_trans sm_z (by decide)) ?_
      refine ev_if_ne (pc := 32) (tgt := 37) dX2_read_32 rfl hL rfl (fun hL => ?_) (fun hL => ?_)
      · refine ev_iconst (pc := 35) dX2_read_35 ?_
        exact evB_zret (pc := 36) dX2_read_36 rfl rfl hL
      · refine ev_aload_n (pc := 37) (i := 1) dX2_read_37 rfl rfl ?_
        refine ev_bipush (pc := 38) dX2_read_38 (by decide) ?_
        obtain ⟨r19, h20, hc21, hL⟩ := cl_un hL
        refine evB_callV_I (pc := 40) (M_Tp_need hc21) dX2_read_40 mt_Tp_need st_Tp_need ml_Lw_38 hs15 (by decide) ⟨_, rfl, rfl⟩ (Nat.le_of_ble_eq_true rfl) rfl rfl (Nat.le_trans sm_z (by decide)) ?_
        refine ev_if_ne (pc := 43) (tgt := 48) dX2_read_43 rfl hL rfl (fun hL => ?_) (fun hL => ?_)
        · refine ev_iconst (pc := 46) dX2_read_46 ?_
          exact evB_zret (pc := 47) dX2_read_47 rfl rfl hL
        · refine ev_iinc (pc := 48) dX2_read_48 rfl (lnl_v (cat_aV _ _) rfl) (Nat.le_of_ble_eq_true rfl) ?_
          refine ev_goto (pc := 51) (tgt := 11) dX2_read_51 rfl ?_
          exact ev_le (lvle_s (lvle_s (lvle_s lvle_z))) (hk11 _ _ hL)
set_option maxHeartbeats 1000000 in
set_option maxRecDepth 100000 in
theorem KLw_read_b11 {ω : Wd} {z : Nat → Prop}  {h h' : Hp} {x0 x1 x2 r : Int}  (hL : Lw_read_b11 h x0 x1 x2 = some (r, h')) : EvB ω N_Lw_read 845 (QB (some (iV r)) z h') z h 11 [some (aV ω x0), some (aV ω x1), some (iV x2)] [] := by
  unfold Lw_read_b11 at hL
  refine itr_link (P := fun (s : Hp × Int × Int × Int) (o : Int × Hp) => EvB ω N_Lw_read 845 (QB (some (iV o.1)) z o.2) z s.1 11 [some (aV ω s.2.1), some (aV ω s.2.2.1), some (iV s.2.2.2)] []) ?_ _ _ _ hL
  intro k hk s o h9
  have h10 := KLw_read_b11_body (ω := ω) (z := z) (k11 := k) (h := s.1) (x0 := s.2.1) (x1 := s.2.2.1) (x2 := s.2.2.2) (r := o.1) (h' := o.2) 
  exact h10 hk h9
set_option maxHeartbeats 1000000 in
set_option maxRecDepth 100000 in
theorem M_Lw_read {ω : Wd} {z : Nat → Prop} {h h' : Hp} {a0 a1 r : Int}  (hL : Lw_read h a0 a1 = some (r, h')) : CtB ω N_Lw_read 845 [aV ω a0, aV ω a1] z h (some (iV r)) h' := by
  unfold Lw_read at hL
  refine Ct_of (lv := [some (aV ω a0), some (aV ω a1), none]) (by decide) (Nat.le_trans (sl_1 (cat_aV _ _) (sl_1 (cat_aV _ _) sl_z)) (Nat.le_of_ble_eq_true rfl)) (la_1 (cat_aV _ _) (la_1 (cat_aV _ _) (la_n la_z))) ?_
  refine ev_aload_n (pc := 0) (i := 0) dX2_read_0 rfl rfl ?_
  refine ev_iconst (pc := 1) dX2_read_1 ?_
  obtain ⟨hs1, hL⟩ := cC_un hL
  refine evB_putI (pc := 2) (c9 := 2) (k9 := 2) (kI := 2) dX2_read_2 fl_Lw_18 hs1 (by decide) (fun q hq => by cases hq; rfl) rfl rfl rfl ?_
  refine ev_puG hL (fun h2 hL => ?_)
  refine ev_aload_n (pc := 5) (i := 1) dX2_read_5 rfl rfl ?_
  obtain ⟨hs3, hL⟩ := cC_un hL
  obtain ⟨r4, h5, hc6, hL⟩ := cl_un hL
  refine evB_callV_V (pc := 6) (M_Tp_start hc6) dX2_read_6 mt_Tp_start st_Tp_start ml_Lw_25 hs3 (by decide) ⟨_, rfl, rfl⟩ (Nat.le_of_ble_eq_true rfl) rfl rfl (Nat.le_trans sm_z (by decide)) ?_
  refine ev_iconst (pc := 9) dX2_read_9 ?_
  refine ev_istore_n (pc := 10) (i := 2) dX2_read_10 rfl (lnl_v (cat_aV _ _) rfl) (Nat.le_of_ble_eq_true rfl) ?_
  exact ev_le (lvle_s (lvle_s (lvle_s lvle_z))) (KLw_read_b11  hL)
set_option maxHeartbeats 1000000 in
set_option maxRecDepth 100000 in
theorem KSs_digit_b44 {ω : Wd} {z : Nat → Prop}  {h h' : Hp} {x0 x2 x4 r : Int}  (hL : Ss_digit_b44 h x0 x2 x4 = some (r, h')) : EvB ω N_Ss_digit 2 (QB (some (iV r)) z h') z h 44 [some (aV ω x0), none, some (iV x2), none, some (iV x4), none] [] := by
  unfold Ss_digit_b44 at hL
  refine ev_aload_n (pc := 44) (i := 0) dX6_digit_44 rfl rfl ?_
  obtain ⟨hs1, hL⟩ := cC_un hL
  refine ev_get (pc := 45) (c9 := 6) (k9 := 0) dX6_digit_45 fl_Ss_9 (by decide) hs1 (gv6_0 hs1) ?_
  refine ev_iconst (pc := 48) dX6_digit_48 ?_
  refine ev_aload_n (pc := 49) (i := 0) dX6_digit_49 rfl rfl ?_
  refine ev_get (pc := 50) (c9 := 6) (k9 := 1) dX6_digit_50 fl_Ss_15 (by decide) hs1 gv6_1 ?_
  refine ev_imul (pc := 53) dX6_digit_53 ?_
  refine ev_iload_n (pc := 54) (i := 2) dX6_digit_54 rfl rfl ?_
  refine ev_iadd (pc := 55) dX6_digit_55 ?_
  refine ev_iload (pc := 56) dX6_digit_56 rfl ?_
  obtain ⟨r2, h3, hc4, hL⟩ := cl_un hL
  refine evB_callS_V (pc := 58) (M_Cc_put hc4) dX6_digit_58 mt_Cc_put st_Cc_put ml_Ss_50 (Nat.le_of_ble_eq_true rfl) rfl rfl (Nat.le_trans sm_z (by decide)) ?_
  refine ev_iconst (pc := 61) dX6_digit_61 ?_
  exact evB_zret (pc := 62) dX6_digit_62 rfl rfl hL
set_option maxHeartbeats 1000000 in
set_option maxRecDepth 100000 in
theorem M_Ss_digit {ω : Wd} {z : Nat → Prop} {h h' : Hp} {a0 a1 a2 a3 r : Int}  (hL : Ss_digit h a0 a1 a2 a3 = some (r, h')) : CtB ω N_Ss_digit 2 [aV ω a0, aV ω a1, iV a2, iV a3] z h (some (iV r)) h' := by
  unfold Ss_digit at hL
  refine Ct_of (lv := [some (aV ω a0), some (aV ω a1), some (iV a2), some (iV a3), none, none]) (by decide) (Nat.le_trans (sl_1 (cat_aV _ _) (sl_1 (cat_aV _ _) (sl_1 (cat_iV _) (sl_1 (cat_iV _) sl_z)))) (Nat.le_of_ble_eq_true rfl)) (la_1 (cat_aV _ _) (la_1 (cat_aV _ _) (la_1 (cat_iV _) (la_1 (cat_iV _) (la_n (la_n la_z)))))) ?_
  refine ev_iconst (pc := 0) dX6_digit_0 ?_
  refine ev_istore (pc := 1) dX6_digit_1 (lnl_v rfl rfl) (Nat.le_of_ble_eq_true rfl) ?_
  refine ev_iload_n (pc := 3) (i := 2) dX6_digit_3 rfl rfl ?_
  refine ev_iload_n (pc := 4) (i := 3) dX6_digit_4 rfl rfl ?_
  refine ev_icmp_gt (pc := 5) (tgt := 44) dX6_digit_5 rfl hL rfl (fun hL => ?_) (fun hL => ?_)
  · exact ev_le (lvle_s (lvle_n (lvle_s (lvle_n (lvle_s (lvle_n lvle_z)))))) (KSs_digit_b44  hL)
  · refine ev_aload_n (pc := 8) (i := 1) dX6_digit_8 rfl rfl ?_
    obtain ⟨hs5, hL⟩ := cC_un hL
    obtain ⟨r6, h7, hc8, hL⟩ := cl_un hL
    refine evB_callV_I (pc := 9) (M_Tp_next hc8) dX6_digit_9 mt_Tp_next st_Tp_next ml_Ss_32 hs5 (by decide) ⟨_, rfl, rfl⟩ (Nat.le_of_ble_eq_true rfl) rfl rfl (Nat.le_trans sm_z (by decide)) ?_
    refine ev_istore (pc := 12) dX6_digit_12 (lnl_v rfl rfl) (Nat.le_of_ble_eq_true rfl) ?_
    refine ev_iload (pc := 14) dX6_digit_14 rfl ?_
    obtain ⟨r9, h10, hc11, hL⟩ := cl_un hL
    refine evB_callS_I (pc := 16) (M_Tp_isDigit hc11) dX6_digit_16 mt_Tp_isDigit st_Tp_isDigit ml_Ss_61 (Nat.le_of_ble_eq_true rfl) rfl rfl (Nat.le_trans sm_z (by decide)) ?_
    refine ev_if_ne (pc := 19) (tgt := 27) dX6_digit_19 rfl hL rfl (fun hL => ?_) (fun hL => ?_)
    · refine ev_aload_n (pc := 22) (i := 1) dX6_digit_22 rfl rfl ?_
      obtain ⟨r12, h13, hc14, hL⟩ := cl_un hL
      refine evB_callV_I (pc := 23) (M_Tp_fail hc14) dX6_digit_23 mt_Tp_fail st_Tp_fail ml_Ss_40 hs5 (by decide) ⟨_, rfl, rfl⟩ (Nat.le_of_ble_eq_true rfl) rfl rfl (Nat.le_trans sm_z (by decide)) ?_
      exact evB_zret (pc := 26) dX6_digit_26 rfl rfl hL
    · refine ev_iload (pc := 27) dX6_digit_27 rfl ?_
      refine ev_bipush (pc := 29) dX6_digit_29 (by decide) ?_
      refine ev_isub (pc := 31) dX6_digit_31 ?_
      refine ev_bdI hL (fun v15 hL => ?_)
      refine ev_istore (pc := 32) dX6_digit_32 (lnl_v rfl rfl) (Nat.le_of_ble_eq_true rfl) ?_
      refine ev_aload_n (pc := 34) (i := 1) dX6_digit_34 rfl rfl ?_
      refine ev_dup (pc := 35) dX6_digit_35 (cat_aV _ _) ?_
      refine ev_get (pc := 36) (c9 := 8) (k9 := 2) dX6_digit_36 fl_Ss_47 (by decide) hs5 gv8_2 ?_
      refine ev_iconst (pc := 39) dX6_digit_39 ?_
      refine ev_iadd (pc := 40) dX6_digit_40 ?_
      refine evB_putI (pc := 41) (c9 := 8) (k9 := 2) (kI := 2) dX6_digit_41 fl_Ss_47 hs5 (by decide) (fun q hq => by cases hq; rfl) rfl rfl rfl ?_
      refine ev_puG hL (fun h16 hL => ?_)
      exact ev_le (lvle_s (lvle_n (lvle_s (lvle_n (lvle_s (lvle_n lvle_z)))))) (KSs_digit_b44  hL)
