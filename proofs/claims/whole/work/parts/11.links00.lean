set_option maxHeartbeats 1000000 in
set_option maxRecDepth 100000 in
theorem M_Cc_at {ω : Wd} {z : Nat → Prop} {h h' : Hp} {a0 a1 r : Int}  (hL : Cc_at h a0 a1 = some (r, h')) : CtB ω N_Cc_at 1 [aV ω a0, iV a1] z h (some (iV r)) h' := by
  unfold Cc_at at hL
  refine Ct_of (lv := [some (aV ω a0), some (iV a1)]) (by decide) (Nat.le_trans (sl_1 (cat_aV _ _) (sl_1 (cat_iV _) sl_z)) (Nat.le_of_ble_eq_true rfl)) (la_1 (cat_aV _ _) (la_1 (cat_iV _) la_z)) ?_
  refine ev_iload_n (pc := 0) (i := 1) dX9_at_0 rfl rfl ?_
  refine ev_if_lt (pc := 1) (tgt := 16) dX9_at_1 rfl hL rfl (fun hL => ?_) (fun hL => ?_)
  · refine ev_iconst (pc := 16) dX9_at_16 ?_
    exact evB_iret (pc := 17) dX9_at_17 rfl hL
  · refine ev_iload_n (pc := 4) (i := 1) dX9_at_4 rfl rfl ?_
    refine ev_aload_n (pc := 5) (i := 0) dX9_at_5 rfl rfl ?_
    obtain ⟨q1a, hL⟩ := cN_un hL
    refine ev_alen (pc := 6) dX9_at_6 q1a ?_
    refine ev_icmp_ge (pc := 7) (tgt := 16) dX9_at_7 rfl hL rfl (fun hL => ?_) (fun hL => ?_)
    · refine ev_aload_n (pc := 10) (i := 0) dX9_at_10 rfl rfl ?_
      refine ev_iload_n (pc := 11) (i := 1) dX9_at_11 rfl rfl ?_
      obtain ⟨q2a, q2b, q2c, hL⟩ := cX_un hL
      refine ev_iald (pc := 12) dX9_at_12 q2a q2b q2c ?_
      refine ev_goto (pc := 13) (tgt := 17) dX9_at_13 rfl ?_
      exact evB_iret (pc := 17) dX9_at_17 rfl hL
    · refine ev_iconst (pc := 16) dX9_at_16 ?_
      exact evB_iret (pc := 17) dX9_at_17 rfl hL
set_option maxHeartbeats 1000000 in
set_option maxRecDepth 100000 in
theorem M_Cy_hardOf {ω : Wd} {z : Nat → Prop} {h h' : Hp} {a0 a1 r : Int}  (hL : Cy_hardOf h a0 a1 = some (r, h')) : CtB ω N_Cy_hardOf 2 [aV ω a0, iV a1] z h (some (iV r)) h' := by
  unfold Cy_hardOf at hL
  refine Ct_of (lv := [some (aV ω a0), some (iV a1)]) (by decide) (Nat.le_trans (sl_1 (cat_aV _ _) (sl_1 (cat_iV _) sl_z)) (Nat.le_of_ble_eq_true rfl)) (la_1 (cat_aV _ _) (la_1 (cat_iV _) la_z)) ?_
  refine ev_aload_n (pc := 0) (i := 0) dX0_hardOf_0 rfl rfl ?_
  obtain ⟨hs1, hL⟩ := cC_un hL
  refine ev_get (pc := 1) (c9 := 0) (k9 := 1) dX0_hardOf_1 fl_Cy_15 (by decide) hs1 (gv0_1 hs1) ?_
  refine ev_iconst (pc := 4) dX0_hardOf_4 ?_
  refine ev_iload_n (pc := 5) (i := 1) dX0_hardOf_5 rfl rfl ?_
  refine ev_imul (pc := 6) dX0_hardOf_6 ?_
  refine ev_iconst (pc := 7) dX0_hardOf_7 ?_
  refine ev_iadd (pc := 8) dX0_hardOf_8 ?_
  obtain ⟨r2, h3, hc4, hL⟩ := cl_un hL
  refine evB_callS_I (pc := 9) (M_Cc_at hc4) dX0_hardOf_9 mt_Cc_at st_Cc_at ml_Cy_74 (Nat.le_of_ble_eq_true rfl) rfl rfl (Nat.le_trans sm_z (by decide)) ?_
  exact evB_iret (pc := 12) dX0_hardOf_12 rfl hL
set_option maxHeartbeats 1000000 in
set_option maxRecDepth 100000 in
theorem M_St_boreOf {ω : Wd} {z : Nat → Prop} {h h' : Hp} {a0 a1 r : Int}  (hL : St_boreOf h a0 a1 = some (r, h')) : CtB ω N_St_boreOf 2 [aV ω a0, iV a1] z h (some (iV r)) h' := by
  unfold St_boreOf at hL
  refine Ct_of (lv := [some (aV ω a0), some (iV a1)]) (by decide) (Nat.le_trans (sl_1 (cat_aV _ _) (sl_1 (cat_iV _) sl_z)) (Nat.le_of_ble_eq_true rfl)) (la_1 (cat_aV _ _) (la_1 (cat_iV _) la_z)) ?_
  refine ev_aload_n (pc := 0) (i := 0) dX7_boreOf_0 rfl rfl ?_
  obtain ⟨hs1, hL⟩ := cC_un hL
  refine ev_get (pc := 1) (c9 := 7) (k9 := 2) dX7_boreOf_1 fl_St_18 (by decide) hs1 (gv7_2 hs1) ?_
  refine ev_iload_n (pc := 4) (i := 1) dX7_boreOf_4 rfl rfl ?_
  obtain ⟨r2, h3, hc4, hL⟩ := cl_un hL
  refine evB_callS_I (pc := 5) (M_Cc_at hc4) dX7_boreOf_5 mt_Cc_at st_Cc_at ml_St_64 (Nat.le_of_ble_eq_true rfl) rfl rfl (Nat.le_trans sm_z (by decide)) ?_
  exact evB_iret (pc := 8) dX7_boreOf_8 rfl hL
set_option maxHeartbeats 1000000 in
set_option maxRecDepth 100000 in
theorem M_St_owes {ω : Wd} {z : Nat → Prop} {h h' : Hp} {a0 a1 a2 r : Int}  (hL : St_owes h a0 a1 a2 = some (r, h')) : CtB ω N_St_owes 2 [aV ω a0, iV a1, iV a2] z h (some (iV r)) h' := by
  unfold St_owes at hL
  refine Ct_of (lv := [some (aV ω a0), some (iV a1), some (iV a2)]) (by decide) (Nat.le_trans (sl_1 (cat_aV _ _) (sl_1 (cat_iV _) (sl_1 (cat_iV _) sl_z))) (Nat.le_of_ble_eq_true rfl)) (la_1 (cat_aV _ _) (la_1 (cat_iV _) (la_1 (cat_iV _) la_z))) ?_
  refine ev_iload_n (pc := 0) (i := 1) dX7_owes_0 rfl rfl ?_
  refine ev_if_lt (pc := 1) (tgt := 20) dX7_owes_1 rfl hL rfl (fun hL => ?_) (fun hL => ?_)
  · refine ev_iconst (pc := 20) dX7_owes_20 ?_
    exact evB_iret (pc := 21) dX7_owes_21 rfl hL
  · refine ev_iload_n (pc := 4) (i := 1) dX7_owes_4 rfl rfl ?_
    refine ev_bipush (pc := 5) dX7_owes_5 (by decide) ?_
    refine ev_icmp_ge (pc := 7) (tgt := 20) dX7_owes_7 rfl hL rfl (fun hL => ?_) (fun hL => ?_)
    · refine ev_iload_n (pc := 10) (i := 2) dX7_owes_10 rfl rfl ?_
      refine ev_if_lt (pc := 11) (tgt := 20) dX7_owes_11 rfl hL rfl (fun hL => ?_) (fun hL => ?_)
      · refine ev_iconst (pc := 20) dX7_owes_20 ?_
        exact evB_iret (pc := 21) dX7_owes_21 rfl hL
      · refine ev_iload_n (pc := 14) (i := 2) dX7_owes_14 rfl rfl ?_
        refine ev_bipush (pc := 15) dX7_owes_15 (by decide) ?_
        refine ev_icmp_lt (pc := 17) (tgt := 22) dX7_owes_17 rfl hL rfl (fun hL => ?_) (fun hL => ?_)
        · refine ev_aload_n (pc := 22) (i := 0) dX7_owes_22 rfl rfl ?_
          obtain ⟨hs1, hL⟩ := cC_un hL
          refine ev_get (pc := 23) (c9 := 7) (k9 := 0) dX7_owes_23 fl_St_9 (by decide) hs1 (gv7_0 hs1) ?_
          refine ev_iload_n (pc := 26) (i := 1) dX7_owes_26 rfl rfl ?_
          refine ev_bipush (pc := 27) dX7_owes_27 (by decide) ?_
          refine ev_imul (pc := 29) dX7_owes_29 ?_
          refine ev_iload_n (pc := 30) (i := 2) dX7_owes_30 rfl rfl ?_
          refine ev_iadd (pc := 31) dX7_owes_31 ?_
          obtain ⟨r2, h3, hc4, hL⟩ := cl_un hL
          refine evB_callS_I (pc := 32) (M_Cc_at hc4) dX7_owes_32 mt_Cc_at st_Cc_at ml_St_64 (Nat.le_of_ble_eq_true rfl) rfl rfl (Nat.le_trans sm_z (by decide)) ?_
          exact evB_iret (pc := 35) dX7_owes_35 rfl hL
        · refine ev_iconst (pc := 20) dX7_owes_20 ?_
          exact evB_iret (pc := 21) dX7_owes_21 rfl hL
    · refine ev_iconst (pc := 20) dX7_owes_20 ?_
      exact evB_iret (pc := 21) dX7_owes_21 rfl hL
set_option maxHeartbeats 1000000 in
set_option maxRecDepth 100000 in
theorem KSt_debtOf_b4_body {ω : Wd} {z : Nat → Prop}  {k4 : Hp × Int × Int × Int × Int → Option (Int × Hp)} {h h' : Hp} {x0 x1 x2 x3 r : Int}  (hk4 : ∀ s o, k4 s = some o → EvB ω N_St_debtOf 3 (QB (some (iV o.1)) z o.2) z s.1 4 [some (aV ω s.2.1), some (iV s.2.2.1), some (iV s.2.2.2.1), some (iV s.2.2.2.2)] []) (hL : St_debtOf_b4_body  k4 h x0 x1 x2 x3 = some (r, h')) : EvB ω N_St_debtOf 3 (QB (some (iV r)) z h') z h 4 [some (aV ω x0), some (iV x1), some (iV x2), some (iV x3)] [] := by
  unfold St_debtOf_b4_body at hL
  refine ev_iload_n (pc := 4) (i := 3) dX7_debtOf_4 rfl rfl ?_
  refine ev_aload_n (pc := 5) (i := 0) dX7_debtOf_5 rfl rfl ?_
  obtain ⟨hs1, hL⟩ := cC_un hL
  refine ev_get (pc := 6) (c9 := 7) (k9 := 4) dX7_debtOf_6 fl_St_24 (by decide) hs1 gv7_4 ?_
  refine ev_icmp_ge (pc := 9) (tgt := 27) dX7_debtOf_9 rfl hL rfl (fun hL => ?_) (fun hL => ?_)
  · refine ev_iload_n (pc := 12) (i := 2) dX7_debtOf_12 rfl rfl ?_
    refine ev_aload_n (pc := 13) (i := 0) dX7_debtOf_13 rfl rfl ?_
    refine ev_iload_n (pc := 14) (i := 1) dX7_debtOf_14 rfl rfl ?_
    refine ev_iload_n (pc := 15) (i := 3) dX7_debtOf_15 rfl rfl ?_
    obtain ⟨r2, h3, hc4, hL⟩ := cl_un hL
    refine evB_callV_I (pc := 16) (M_St_owes hc4) dX7_debtOf_16 mt_St_owes st_St_owes ml_St_79 hs1 (by decide) ⟨_, rfl, rfl⟩ (Nat.le_of_ble_eq_true rfl) rfl rfl (Nat.le_trans (sm_1 (cat_iV _) sm_z) (by decide)) ?_
    refine ev_iadd (pc := 19) dX7_debtOf_19 ?_
    refine ev_bdI hL (fun v5 hL => ?_)
    refine ev_istore_n (pc := 20) (i := 2) dX7_debtOf_20 rfl (lnl_v rfl rfl) (Nat.le_of_ble_eq_true rfl) ?_
    refine ev_iinc (pc := 21) dX7_debtOf_21 rfl (lnl_v rfl rfl) (Nat.le_of_ble_eq_true rfl) ?_
    refine ev_goto (pc := 24) (tgt := 4) dX7_debtOf_24 rfl ?_
    exact ev_le (lvle_s (lvle_s (lvle_s (lvle_s lvle_z)))) (hk4 _ _ hL)
  · refine ev_iload_n (pc := 27) (i := 2) dX7_debtOf_27 rfl rfl ?_
    exact evB_iret (pc := 28) dX7_debtOf_28 rfl hL
set_option maxHeartbeats 1000000 in
set_option maxRecDepth 100000 in
theorem KSt_debtOf_b4 {ω : Wd} {z : Nat → Prop}  {h h' : Hp} {x0 x1 x2 x3 r : Int}  (hL : St_debtOf_b4 h x0 x1 x2 x3 = some (r, h')) : EvB ω N_St_debtOf 3 (QB (some (iV r)) z h') z h 4 [some (aV ω x0), some (iV x1), some (iV x2), some (iV x3)] [] := by
  unfold St_debtOf_b4 at hL
  refine itr_link (P := fun (s : Hp × Int × Int × Int × Int) (o : Int × Hp) => EvB ω N_St_debtOf 3 (QB (some (iV o.1)) z o.2) z s.1 4 [some (aV ω s.2.1), some (iV s.2.2.1), some (iV s.2.2.2.1), some (iV s.2.2.2.2)] []) ?_ _ _ _ hL
  intro k hk s o h9
  have h10 := KSt_debtOf_b4_body (ω := ω) (z := z) (k4 := k) (h := s.1) (x0 := s.2.1) (x1 := s.2.2.1) (x2 := s.2.2.2.1) (x3 := s.2.2.2.2) (r := o.1) (h' := o.2) 
  exact h10 hk h9
set_option maxHeartbeats 1000000 in
set_option maxRecDepth 100000 in
theorem M_St_debtOf {ω : Wd} {z : Nat → Prop} {h h' : Hp} {a0 a1 r : Int}  (hL : St_debtOf h a0 a1 = some (r, h')) : CtB ω N_St_debtOf 3 [aV ω a0, iV a1] z h (some (iV r)) h' := by
  unfold St_debtOf at hL
  refine Ct_of (lv := [some (aV ω a0), some (iV a1), none, none]) (by decide) (Nat.le_trans (sl_1 (cat_aV _ _) (sl_1 (cat_iV _) sl_z)) (Nat.le_of_ble_eq_true rfl)) (la_1 (cat_aV _ _) (la_1 (cat_iV _) (la_n (la_n la_z)))) ?_
  refine ev_iconst (pc := 0) dX7_debtOf_0 ?_
  refine ev_istore_n (pc := 1) (i := 2) dX7_debtOf_1 rfl (lnl_v rfl rfl) (Nat.le_of_ble_eq_true rfl) ?_
  refine ev_iconst (pc := 2) dX7_debtOf_2 ?_
  refine ev_istore_n (pc := 3) (i := 3) dX7_debtOf_3 rfl (lnl_v rfl rfl) (Nat.le_of_ble_eq_true rfl) ?_
  exact ev_le (lvle_s (lvle_s (lvle_s (lvle_s lvle_z)))) (KSt_debtOf_b4  hL)
set_option maxHeartbeats 1000000 in
set_option maxRecDepth 100000 in
theorem M_St_lonelyOf {ω : Wd} {z : Nat → Prop} {h h' : Hp} {a0 a1 r : Int}  (hL : St_lonelyOf h a0 a1 = some (r, h')) : CtB ω N_St_lonelyOf 2 [aV ω a0, iV a1] z h (some (iV r)) h' := by
  unfold St_lonelyOf at hL
  refine Ct_of (lv := [some (aV ω a0), some (iV a1)]) (by decide) (Nat.le_trans (sl_1 (cat_aV _ _) (sl_1 (cat_iV _) sl_z)) (Nat.le_of_ble_eq_true rfl)) (la_1 (cat_aV _ _) (la_1 (cat_iV _) la_z)) ?_
  refine ev_aload_n (pc := 0) (i := 0) dX7_lonelyOf_0 rfl rfl ?_
  obtain ⟨hs1, hL⟩ := cC_un hL
  refine ev_get (pc := 1) (c9 := 7) (k9 := 1) dX7_lonelyOf_1 fl_St_15 (by decide) hs1 (gv7_1 hs1) ?_
  refine ev_iload_n (pc := 4) (i := 1) dX7_lonelyOf_4 rfl rfl ?_
  obtain ⟨r2, h3, hc4, hL⟩ := cl_un hL
  refine evB_callS_I (pc := 5) (M_Cc_at hc4) dX7_lonelyOf_5 mt_Cc_at st_Cc_at ml_St_64 (Nat.le_of_ble_eq_true rfl) rfl rfl (Nat.le_trans sm_z (by decide)) ?_
  exact evB_iret (pc := 8) dX7_lonelyOf_8 rfl hL
set_option maxHeartbeats 1000000 in
set_option maxRecDepth 100000 in
theorem M_Cc_sideOf {ω : Wd} {z : Nat → Prop} {h h' : Hp} {a0 a1 a2 r : Int}  (hL : Cc_sideOf h a0 a1 a2 = some (r, h')) : CtB ω N_Cc_sideOf 4 [aV ω a0, iV a1, iV a2] z h (some (iV r)) h' := by
  unfold Cc_sideOf at hL
  refine Ct_of (lv := [some (aV ω a0), some (iV a1), some (iV a2)]) (by decide) (Nat.le_trans (sl_1 (cat_aV _ _) (sl_1 (cat_iV _) (sl_1 (cat_iV _) sl_z))) (Nat.le_of_ble_eq_true rfl)) (la_1 (cat_aV _ _) (la_1 (cat_iV _) (la_1 (cat_iV _) la_z))) ?_
  refine ev_iload_n (pc := 0) (i := 2) dX9_sideOf_0 rfl rfl ?_
  rcases ite_un hL with ⟨hx, hL⟩ | ⟨hx6, hL⟩
  · refine evB_tswIn (pc := 1) (tgt := 28) dX9_sideOf_1 hx (by decide) (by decide) rfl rfl ?_
    refine ev_aload_n (pc := 28) (i := 0) dX9_sideOf_28 rfl rfl ?_
    obtain ⟨hs1, hL⟩ := cC_un hL
    refine ev_get (pc := 29) (c9 := 9) (k9 := 10) dX9_sideOf_29 fl_Cc_58 (by decide) hs1 (gv9_10 hs1) ?_
    refine ev_iload_n (pc := 32) (i := 1) dX9_sideOf_32 rfl rfl ?_
    obtain ⟨hs2, hL⟩ := cC_un hL
    obtain ⟨r3, h4, hc5, hL⟩ := cl_un hL
    refine evB_callV_I (pc := 33) (M_St_lonelyOf hc5) dX9_sideOf_33 mt_St_lonelyOf st_St_lonelyOf ml_Cc_142 hs2 (by decide) ⟨_, rfl, rfl⟩ (Nat.le_of_ble_eq_true rfl) rfl rfl (Nat.le_trans sm_z (by decide)) ?_
    exact evB_iret (pc := 36) dX9_sideOf_36 rfl hL
  · rcases ite_un hL with ⟨hx, hL⟩ | ⟨hx12, hL⟩
    · refine evB_tswIn (pc := 1) (tgt := 37) dX9_sideOf_1 hx (by decide) (by decide) rfl rfl ?_
      refine ev_aload_n (pc := 37) (i := 0) dX9_sideOf_37 rfl rfl ?_
      obtain ⟨hs7, hL⟩ := cC_un hL
      refine ev_get (pc := 38) (c9 := 9) (k9 := 10) dX9_sideOf_38 fl_Cc_58 (by decide) hs7 (gv9_10 hs7) ?_
      refine ev_iload_n (pc := 41) (i := 1) dX9_sideOf_41 rfl rfl ?_
      obtain ⟨hs8, hL⟩ := cC_un hL
      obtain ⟨r9, h10, hc11, hL⟩ := cl_un hL
      refine evB_callV_I (pc := 42) (M_St_boreOf hc11) dX9_sideOf_42 mt_St_boreOf st_St_boreOf ml_Cc_145 hs8 (by decide) ⟨_, rfl, rfl⟩ (Nat.le_of_ble_eq_true rfl) rfl rfl (Nat.le_trans sm_z (by decide)) ?_
      exact evB_iret (pc := 45) dX9_sideOf_45 rfl hL
    · rcases ite_un hL with ⟨hx, hL⟩ | ⟨hx18, hL⟩
      · refine evB_tswIn (pc := 1) (tgt := 46) dX9_sideOf_1 hx (by decide) (by decide) rfl rfl ?_
        refine ev_aload_n (pc := 46) (i := 0) dX9_sideOf_46 rfl rfl ?_
        obtain ⟨hs13, hL⟩ := cC_un hL
        refine ev_get (pc := 47) (c9 := 9) (k9 := 1) dX9_sideOf_47 fl_Cc_19 (by decide) hs13 gv9_1 ?_
        refine ev_iload_n (pc := 50) (i := 1) dX9_sideOf_50 rfl rfl ?_
        obtain ⟨hs14, hL⟩ := cC_un hL
        obtain ⟨r15, h16, hc17, hL⟩ := cl_un hL
        refine evB_callV_I (pc := 51) (M_Cy_hardOf hc17) dX9_sideOf_51 mt_Cy_hardOf st_Cy_hardOf ml_Cc_148 hs14 (by decide) ⟨_, rfl, rfl⟩ (Nat.le_of_ble_eq_true rfl) rfl rfl (Nat.le_trans sm_z (by decide)) ?_
        exact evB_iret (pc := 54) dX9_sideOf_54 rfl hL
      · refine evB_tswOut (pc := 1) (tgt := 55) dX9_sideOf_1 (by omega) rfl ?_
        refine ev_aload_n (pc := 55) (i := 0) dX9_sideOf_55 rfl rfl ?_
        obtain ⟨hs19, hL⟩ := cC_un hL
        refine ev_get (pc := 56) (c9 := 9) (k9 := 10) dX9_sideOf_56 fl_Cc_58 (by decide) hs19 (gv9_10 hs19) ?_
        refine ev_iload_n (pc := 59) (i := 1) dX9_sideOf_59 rfl rfl ?_
        obtain ⟨hs20, hL⟩ := cC_un hL
        obtain ⟨r21, h22, hc23, hL⟩ := cl_un hL
        refine evB_callV_I (pc := 60) (M_St_debtOf hc23) dX9_sideOf_60 mt_St_debtOf st_St_debtOf ml_Cc_151 hs20 (by decide) ⟨_, rfl, rfl⟩ (Nat.le_of_ble_eq_true rfl) rfl rfl (Nat.le_trans sm_z (by decide)) ?_
        exact evB_iret (pc := 63) dX9_sideOf_63 rfl hL
set_option maxHeartbeats 1000000 in
set_option maxRecDepth 100000 in
theorem KCc_foremost_b4_body {ω : Wd} {z : Nat → Prop}  {k4 : Hp × Int × Int × Int × Int → Option (Int × Hp)} {h h' : Hp} {x0 x1 x2 x3 r : Int}  (hk4 : ∀ s o, k4 s = some o → EvB ω N_Cc_foremost 5 (QB (some (iV o.1)) z o.2) z s.1 4 [some (aV ω s.2.1), some (iV s.2.2.1), some (iV s.2.2.2.1), some (iV s.2.2.2.2)] []) (hL : Cc_foremost_b4_body  k4 h x0 x1 x2 x3 = some (r, h')) : EvB ω N_Cc_foremost 5 (QB (some (iV r)) z h') z h 4 [some (aV ω x0), some (iV x1), some (iV x2), some (iV x3)] [] := by
  unfold Cc_foremost_b4_body at hL
  refine ev_iload_n (pc := 4) (i := 3) dX9_foremost_4 rfl rfl ?_
  refine ev_aload_n (pc := 5) (i := 0) dX9_foremost_5 rfl rfl ?_
  obtain ⟨hs1, hL⟩ := cC_un hL
  refine ev_get (pc := 6) (c9 := 9) (k9 := 10) dX9_foremost_6 fl_Cc_58 (by decide) hs1 (gv9_10 hs1) ?_
  obtain ⟨hs2, hL⟩ := cC_un hL
  refine ev_get (pc := 9) (c9 := 7) (k9 := 4) dX9_foremost_9 fl_Cc_282 (by decide) hs2 gv7_4 ?_
  refine ev_icmp_ge (pc := 12) (tgt := 38) dX9_foremost_12 rfl hL rfl (fun hL => ?_) (fun hL => ?_)
  · refine ev_aload_n (pc := 15) (i := 0) dX9_foremost_15 rfl rfl ?_
    refine ev_iload_n (pc := 16) (i := 3) dX9_foremost_16 rfl rfl ?_
    refine ev_iload_n (pc := 17) (i := 1) dX9_foremost_17 rfl rfl ?_
    obtain ⟨r3, h4, hc5, hL⟩ := cl_un hL
    refine evB_callV_I (pc := 18) (M_Cc_sideOf hc5) dX9_foremost_18 mt_Cc_sideOf st_Cc_sideOf ml_Cc_450 hs1 (by decide) ⟨_, rfl, rfl⟩ (Nat.le_of_ble_eq_true rfl) rfl rfl (Nat.le_trans sm_z (by decide)) ?_
    refine ev_aload_n (pc := 21) (i := 0) dX9_foremost_21 rfl rfl ?_
    refine ev_iload_n (pc := 22) (i := 2) dX9_foremost_22 rfl rfl ?_
    refine ev_iload_n (pc := 23) (i := 1) dX9_foremost_23 rfl rfl ?_
    obtain ⟨r6, h7, hc8, hL⟩ := cl_un hL
    refine evB_callV_I (pc := 24) (M_Cc_sideOf hc8) dX9_foremost_24 mt_Cc_sideOf st_Cc_sideOf ml_Cc_450 hs1 (by decide) ⟨_, rfl, rfl⟩ (Nat.le_of_ble_eq_true rfl) rfl rfl (Nat.le_trans (sm_1 (cat_iV _) sm_z) (by decide)) ?_
    refine ev_icmp_le (pc := 27) (tgt := 32) dX9_foremost_27 rfl hL rfl (fun hL => ?_) (fun hL => ?_)
    · refine ev_iload_n (pc := 30) (i := 3) dX9_foremost_30 rfl rfl ?_
      refine ev_istore_n (pc := 31) (i := 2) dX9_foremost_31 rfl (lnl_v rfl rfl) (Nat.le_of_ble_eq_true rfl) ?_
      refine ev_iinc (pc := 32) dX9_foremost_32 rfl (lnl_v rfl rfl) (Nat.le_of_ble_eq_true rfl) ?_
      refine ev_goto (pc := 35) (tgt := 4) dX9_foremost_35 rfl ?_
      exact ev_le (lvle_s (lvle_s (lvle_s (lvle_s lvle_z)))) (hk4 _ _ hL)
    · refine ev_iinc (pc := 32) dX9_foremost_32 rfl (lnl_v rfl rfl) (Nat.le_of_ble_eq_true rfl) ?_
      refine ev_goto (pc := 35) (tgt := 4) dX9_foremost_35 rfl ?_
      exact ev_le (lvle_s (lvle_s (lvle_s (lvle_s lvle_z)))) (hk4 _ _ hL)
  · refine ev_iload_n (pc := 38) (i := 2) dX9_foremost_38 rfl rfl ?_
    exact evB_iret (pc := 39) dX9_foremost_39 rfl hL
set_option maxHeartbeats 1000000 in
set_option maxRecDepth 100000 in
theorem KCc_foremost_b4 {ω : Wd} {z : Nat → Prop}  {h h' : Hp} {x0 x1 x2 x3 r : Int}  (hL : Cc_foremost_b4 h x0 x1 x2 x3 = some (r, h')) : EvB ω N_Cc_foremost 5 (QB (some (iV r)) z h') z h 4 [some (aV ω x0), some (iV x1), some (iV x2), some (iV x3)] [] := by
  unfold Cc_foremost_b4 at hL
  refine itr_link (P := fun (s : Hp × Int × Int × Int × Int) (o : Int × Hp) => EvB ω N_Cc_foremost 5 (QB (some (iV o.1)) z o.2) z s.1 4 [some (aV ω s.2.1), some (iV s.2.2.1), some (iV s.2.2.2.1), some (iV s.2.2.2.2)] []) ?_ _ _ _ hL
  intro k hk s o h9
  have h10 := KCc_foremost_b4_body (ω := ω) (z := z) (k4 := k) (h := s.1) (x0 := s.2.1) (x1 := s.2.2.1) (x2 := s.2.2.2.1) (x3 := s.2.2.2.2) (r := o.1) (h' := o.2) 
  exact h10 hk h9
set_option maxHeartbeats 1000000 in
set_option maxRecDepth 100000 in
theorem M_Cc_foremost {ω : Wd} {z : Nat → Prop} {h h' : Hp} {a0 a1 r : Int}  (hL : Cc_foremost h a0 a1 = some (r, h')) : CtB ω N_Cc_foremost 5 [aV ω a0, iV a1] z h (some (iV r)) h' := by
  unfold Cc_foremost at hL
  refine Ct_of (lv := [some (aV ω a0), some (iV a1), none, none]) (by decide) (Nat.le_trans (sl_1 (cat_aV _ _) (sl_1 (cat_iV _) sl_z)) (Nat.le_of_ble_eq_true rfl)) (la_1 (cat_aV _ _) (la_1 (cat_iV _) (la_n (la_n la_z)))) ?_
  refine ev_iconst (pc := 0) dX9_foremost_0 ?_
  refine ev_istore_n (pc := 1) (i := 2) dX9_foremost_1 rfl (lnl_v rfl rfl) (Nat.le_of_ble_eq_true rfl) ?_
  refine ev_iconst (pc := 2) dX9_foremost_2 ?_
  refine ev_istore_n (pc := 3) (i := 3) dX9_foremost_3 rfl (lnl_v rfl rfl) (Nat.le_of_ble_eq_true rfl) ?_
  exact ev_le (lvle_s (lvle_s (lvle_s (lvle_s lvle_z)))) (KCc_foremost_b4  hL)
set_option maxHeartbeats 1000000 in
set_option maxRecDepth 100000 in
theorem KCc_freePeople_b4_body {ω : Wd} {z : Nat → Prop}  {k4 : Hp × Int × Int × Int → Option (Int × Hp)} {h h' : Hp} {x0 x1 x2 r : Int}  (hk4 : ∀ s o, k4 s = some o → EvB ω N_Cc_freePeople 4 (QB (some (iV o.1)) z o.2) z s.1 4 [some (aV ω s.2.1), some (iV s.2.2.1), some (iV s.2.2.2)] []) (hL : Cc_freePeople_b4_body  k4 h x0 x1 x2 = some (r, h')) : EvB ω N_Cc_freePeople 4 (QB (some (iV r)) z h') z h 4 [some (aV ω x0), some (iV x1), some (iV x2)] [] := by
  unfold Cc_freePeople_b4_body at hL
  refine ev_iload_n (pc := 4) (i := 2) dX9_freePeople_4 rfl rfl ?_
  refine ev_aload_n (pc := 5) (i := 0) dX9_freePeople_5 rfl rfl ?_
  obtain ⟨hs1, hL⟩ := cC_un hL
  refine ev_get (pc := 6) (c9 := 9) (k9 := 10) dX9_freePeople_6 fl_Cc_58 (by decide) hs1 (gv9_10 hs1) ?_
  obtain ⟨hs2, hL⟩ := cC_un hL
  refine ev_get (pc := 9) (c9 := 7) (k9 := 4) dX9_freePeople_9 fl_Cc_282 (by decide) hs2 gv7_4 ?_
  refine ev_icmp_ge (pc := 12) (tgt := 38) dX9_freePeople_12 rfl hL rfl (fun hL => ?_) (fun hL => ?_)
  · refine ev_aload_n (pc := 15) (i := 0) dX9_freePeople_15 rfl rfl ?_
    refine ev_get (pc := 16) (c9 := 9) (k9 := 10) dX9_freePeople_16 fl_Cc_58 (by decide) hs1 (gv9_10 hs1) ?_
    refine ev_iload_n (pc := 19) (i := 2) dX9_freePeople_19 rfl rfl ?_
    obtain ⟨r3, h4, hc5, hL⟩ := cl_un hL
    refine evB_callV_I (pc := 20) (M_St_debtOf hc5) dX9_freePeople_20 mt_St_debtOf st_St_debtOf ml_Cc_151 hs2 (by decide) ⟨_, rfl, rfl⟩ (Nat.le_of_ble_eq_true rfl) rfl rfl (Nat.le_trans sm_z (by decide)) ?_
    refine ev_if_ne (pc := 23) (tgt := 32) dX9_freePeople_23 rfl hL rfl (fun hL => ?_) (fun hL => ?_)
    · refine ev_iload_n (pc := 26) (i := 1) dX9_freePeople_26 rfl rfl ?_
      refine ev_iconst (pc := 27) dX9_freePeople_27 ?_
      refine ev_iload_n (pc := 28) (i := 2) dX9_freePeople_28 rfl rfl ?_
      refine ev_ishl (pc := 29) dX9_freePeople_29 ?_
      refine ev_ior (pc := 30) dX9_freePeople_30 ?_
      refine ev_bdI hL (fun v6 hL => ?_)
      refine ev_istore_n (pc := 31) (i := 1) dX9_freePeople_31 rfl (lnl_v (cat_aV _ _) rfl) (Nat.le_of_ble_eq_true rfl) ?_
      refine ev_iinc (pc := 32) dX9_freePeople_32 rfl (lnl_v rfl rfl) (Nat.le_of_ble_eq_true rfl) ?_
      refine ev_goto (pc := 35) (tgt := 4) dX9_freePeople_35 rfl ?_
      exact ev_le (lvle_s (lvle_s (lvle_s lvle_z))) (hk4 _ _ hL)
    · refine ev_iinc (pc := 32) dX9_freePeople_32 rfl (lnl_v rfl rfl) (Nat.le_of_ble_eq_true rfl) ?_
      refine ev_goto (pc := 35) (tgt := 4) dX9_freePeople_35 rfl ?_
      exact ev_le (lvle_s (lvle_s (lvle_s lvle_z))) (hk4 _ _ hL)
  · refine ev_iload_n (pc := 38) (i := 1) dX9_freePeople_38 rfl rfl ?_
    exact evB_iret (pc := 39) dX9_freePeople_39 rfl hL
set_option maxHeartbeats 1000000 in
set_option maxRecDepth 100000 in
theorem KCc_freePeople_b4 {ω : Wd} {z : Nat → Prop}  {h h' : Hp} {x0 x1 x2 r : Int}  (hL : Cc_freePeople_b4 h x0 x1 x2 = some (r, h')) : EvB ω N_Cc_freePeople 4 (QB (some (iV r)) z h') z h 4 [some (aV ω x0), some (iV x1), some (iV x2)] [] := by
  unfold Cc_freePeople_b4 at hL
  refine itr_link (P := fun (s : Hp × Int × Int × Int) (o : Int × Hp) => EvB ω N_Cc_freePeople 4 (QB (some (iV o.1)) z o.2) z s.1 4 [some (aV ω s.2.1), some (iV s.2.2.1), some (iV s.2.2.2)] []) ?_ _ _ _ hL
  intro k hk s o h9
  have h10 := KCc_freePeople_b4_body (ω := ω) (z := z) (k4 := k) (h := s.1) (x0 := s.2.1) (x1 := s.2.2.1) (x2 := s.2.2.2) (r := o.1) (h' := o.2) 
  exact h10 hk h9
set_option maxHeartbeats 1000000 in
set_option maxRecDepth 100000 in
theorem M_Cc_freePeople {ω : Wd} {z : Nat → Prop} {h h' : Hp} {a0 r : Int}  (hL : Cc_freePeople h a0 = some (r, h')) : CtB ω N_Cc_freePeople 4 [aV ω a0] z h (some (iV r)) h' := by
  unfold Cc_freePeople at hL
  refine Ct_of (lv := [some (aV ω a0), none, none]) (by decide) (Nat.le_trans (sl_1 (cat_aV _ _) sl_z) (Nat.le_of_ble_eq_true rfl)) (la_1 (cat_aV _ _) (la_n (la_n la_z))) ?_
  refine ev_iconst (pc := 0) dX9_freePeople_0 ?_
  refine ev_istore_n (pc := 1) (i := 1) dX9_freePeople_1 rfl (lnl_v (cat_aV _ _) rfl) (Nat.le_of_ble_eq_true rfl) ?_
  refine ev_iconst (pc := 2) dX9_freePeople_2 ?_
  refine ev_istore_n (pc := 3) (i := 2) dX9_freePeople_3 rfl (lnl_v rfl rfl) (Nat.le_of_ble_eq_true rfl) ?_
  exact ev_le (lvle_s (lvle_s (lvle_s lvle_z))) (KCc_freePeople_b4  hL)
set_option maxHeartbeats 1000000 in
set_option maxRecDepth 100000 in
theorem M_Cc_isTold {ω : Wd} {z : Nat → Prop} {h h' : Hp} {a0 r : Int}  (hL : Cc_isTold h a0 = some (r, h')) : CtB ω N_Cc_isTold 1 [aV ω a0] z h (some (iV r)) h' := by
  unfold Cc_isTold at hL
  refine Ct_of (lv := [some (aV ω a0)]) (by decide) (Nat.le_trans (sl_1 (cat_aV _ _) sl_z) (Nat.le_of_ble_eq_true rfl)) (la_1 (cat_aV _ _) la_z) ?_
  refine ev_aload_n (pc := 0) (i := 0) dX9_isTold_0 rfl rfl ?_
  obtain ⟨hs1, hL⟩ := cC_un hL
  refine ev_get (pc := 1) (c9 := 9) (k9 := 1) dX9_isTold_1 fl_Cc_19 (by decide) hs1 gv9_1 ?_
  obtain ⟨hs2, hL⟩ := cC_un hL
  refine ev_get (pc := 4) (c9 := 0) (k9 := 4) dX9_isTold_4 fl_Cc_391 (by decide) hs2 gv0_4 ?_
  refine ev_if_le (pc := 7) (tgt := 14) dX9_isTold_7 rfl hL rfl (fun hL => ?_) (fun hL => ?_)
  · refine ev_iconst (pc := 10) dX9_isTold_10 ?_
    refine ev_goto (pc := 11) (tgt := 15) dX9_isTold_11 rfl ?_
    exact evB_zret (pc := 15) dX9_isTold_15 rfl rfl hL
  · refine ev_iconst (pc := 14) dX9_isTold_14 ?_
    exact evB_zret (pc := 15) dX9_isTold_15 rfl rfl hL
set_option maxHeartbeats 1000000 in
set_option maxRecDepth 100000 in
theorem KCc_apartAt_b23 {ω : Wd} {z : Nat → Prop}  {h h' : Hp} {y0 r : Int}  (hL : Cc_apartAt_b23 h y0 = some (r, h')) : EvB ω N_Cc_apartAt 1 (QB (some (aV ω r)) z h') z h 23 [none, none, none] [aV ω y0] := by
  unfold Cc_apartAt_b23 at hL
  refine ev_astore_n (pc := 23) (i := 2) (isA_aV _ _) dX9_apartAt_23 rfl (lnl_n rfl) (Nat.le_of_ble_eq_true rfl) ?_
  refine ev_aload_n (pc := 24) (i := 2) dX9_apartAt_24 rfl rfl ?_
  refine ev_ifnonnull (pc := 25) (tgt := 38) dX9_apartAt_25 rfl hL rfl (fun hL => ?_) (fun hL => ?_)
  · cases hL
  · refine ev_aload_n (pc := 38) (i := 2) dX9_apartAt_38 rfl rfl ?_
    exact evB_aret (pc := 39) dX9_apartAt_39 rfl (Or.inl ⟨_, rfl⟩) hL
set_option maxHeartbeats 1000000 in
set_option maxRecDepth 100000 in
theorem M_Cc_apartAt {ω : Wd} {z : Nat → Prop} {h h' : Hp} {a0 a1 r : Int}  (hL : Cc_apartAt h a0 a1 = some (r, h')) : CtB ω N_Cc_apartAt 1 [aV ω a0, iV a1] z h (some (aV ω r)) h' := by
  unfold Cc_apartAt at hL
  refine Ct_of (lv := [some (aV ω a0), some (iV a1), none]) (by decide) (Nat.le_trans (sl_1 (cat_aV _ _) (sl_1 (cat_iV _) sl_z)) (Nat.le_of_ble_eq_true rfl)) (la_1 (cat_aV _ _) (la_1 (cat_iV _) (la_n la_z))) ?_
  refine ev_iload_n (pc := 0) (i := 1) dX9_apartAt_0 rfl rfl ?_
  refine ev_if_lt (pc := 1) (tgt := 22) dX9_apartAt_1 rfl hL rfl (fun hL => ?_) (fun hL => ?_)
  · refine ev_null (pc := 22) dX9_apartAt_22 ?_
    exact ev_le (lvle_n (lvle_n (lvle_n lvle_z))) (KCc_apartAt_b23  hL)
  · refine ev_iload_n (pc := 4) (i := 1) dX9_apartAt_4 rfl rfl ?_
    refine ev_aload_n (pc := 5) (i := 0) dX9_apartAt_5 rfl rfl ?_
    obtain ⟨hs1, hL⟩ := cC_un hL
    refine ev_get (pc := 6) (c9 := 9) (k9 := 13) dX9_apartAt_6 fl_Cc_68 (by decide) hs1 (gv9_13 hs1) ?_
    obtain ⟨q2a, hL⟩ := cN_un hL
    refine ev_alen (pc := 9) dX9_apartAt_9 q2a ?_
    refine ev_icmp_ge (pc := 10) (tgt := 22) dX9_apartAt_10 rfl hL rfl (fun hL => ?_) (fun hL => ?_)
    · refine ev_aload_n (pc := 13) (i := 0) dX9_apartAt_13 rfl rfl ?_
      refine ev_get (pc := 14) (c9 := 9) (k9 := 13) dX9_apartAt_14 fl_Cc_68 (by decide) hs1 (gv9_13 hs1) ?_
      refine ev_iload_n (pc := 17) (i := 1) dX9_apartAt_17 rfl rfl ?_
      obtain ⟨q3a, q3b, q3c, hL⟩ := cX_un hL
      refine ev_aald (pc := 18) dX9_apartAt_18 (by rw [q3a]; decide) q3b q3c ?_
      refine ev_goto (pc := 19) (tgt := 23) dX9_apartAt_19 rfl ?_
      exact ev_le (lvle_n (lvle_n (lvle_n lvle_z))) (KCc_apartAt_b23  hL)
    · refine ev_null (pc := 22) dX9_apartAt_22 ?_
      exact ev_le (lvle_n (lvle_n (lvle_n lvle_z))) (KCc_apartAt_b23  hL)
set_option maxHeartbeats 1000000 in
set_option maxRecDepth 100000 in
theorem M_Cc_put {ω : Wd} {z : Nat → Prop} {h h' : Hp} {a0 a1 a2 r : Int}  (hL : Cc_put h a0 a1 a2 = some (r, h')) : CtB ω N_Cc_put 1 [aV ω a0, iV a1, iV a2] z h none h' := by
  unfold Cc_put at hL
  refine Ct_of (lv := [some (aV ω a0), some (iV a1), some (iV a2)]) (by decide) (Nat.le_trans (sl_1 (cat_aV _ _) (sl_1 (cat_iV _) (sl_1 (cat_iV _) sl_z))) (Nat.le_of_ble_eq_true rfl)) (la_1 (cat_aV _ _) (la_1 (cat_iV _) (la_1 (cat_iV _) la_z))) ?_
  refine ev_iload_n (pc := 0) (i := 1) dX9_put_0 rfl rfl ?_
  refine ev_if_lt (pc := 1) (tgt := 14) dX9_put_1 rfl hL rfl (fun hL => ?_) (fun hL => ?_)
  · exact evB_vret (pc := 14) dX9_put_14 rfl hL
  · refine ev_iload_n (pc := 4) (i := 1) dX9_put_4 rfl rfl ?_
    refine ev_aload_n (pc := 5) (i := 0) dX9_put_5 rfl rfl ?_
    obtain ⟨q1a, hL⟩ := cN_un hL
    refine ev_alen (pc := 6) dX9_put_6 q1a ?_
    refine ev_icmp_ge (pc := 7) (tgt := 14) dX9_put_7 rfl hL rfl (fun hL => ?_) (fun hL => ?_)
    · refine ev_aload_n (pc := 10) (i := 0) dX9_put_10 rfl rfl ?_
      refine ev_iload_n (pc := 11) (i := 1) dX9_put_11 rfl rfl ?_
      refine ev_iload_n (pc := 12) (i := 2) dX9_put_12 rfl rfl ?_
      obtain ⟨q2a, q2d, q2b, q2c, hL⟩ := cY_un hL
      refine ev_iast (pc := 13) dX9_put_13 q2a q2d q2b q2c ?_
      refine ev_puG hL (fun h3 hL => ?_)
      exact evB_vret (pc := 14) dX9_put_14 rfl hL
    · exact evB_vret (pc := 14) dX9_put_14 rfl hL
set_option maxHeartbeats 1000000 in
set_option maxRecDepth 100000 in
theorem KSt_copy_b75_body {ω : Wd} {z : Nat → Prop}  {k75 : Hp × Int × Int × Int → Option (Int × Hp)} {h h' : Hp} {x0 x1 x2 r : Int}  (hk75 : ∀ s o, k75 s = some o → EvB ω N_St_copy 2 (QB none z o.2) z s.1 75 [some (aV ω s.2.1), some (aV ω s.2.2.1), some (iV s.2.2.2)] []) (hL : St_copy_b75_body  k75 h x0 x1 x2 = some (r, h')) : EvB ω N_St_copy 2 (QB none z h') z h 75 [some (aV ω x0), some (aV ω x1), some (iV x2)] [] := by
  unfold St_copy_b75_body at hL
  refine ev_iload_n (pc := 75) (i := 2) dX7_copy_75 rfl rfl ?_
  refine ev_bipush (pc := 76) dX7_copy_76 (by decide) ?_
  refine ev_icmp_ge (pc := 78) (tgt := 119) dX7_copy_78 rfl hL rfl (fun hL => ?_) (fun hL => ?_)
  · refine ev_aload_n (pc := 81) (i := 0) dX7_copy_81 rfl rfl ?_
    obtain ⟨hs17, hL⟩ := cC_un hL
    refine ev_get (pc := 82) (c9 := 7) (k9 := 1) dX7_copy_82 fl_St_15 (by decide) hs17 (gv7_1 hs17) ?_
    refine ev_iload_n (pc := 85) (i := 2) dX7_copy_85 rfl rfl ?_
    refine ev_aload_n (pc := 86) (i := 1) dX7_copy_86 rfl rfl ?_
    obtain ⟨hs18, hL⟩ := cC_un hL
    refine ev_get (pc := 87) (c9 := 7) (k9 := 1) dX7_copy_87 fl_St_15 (by decide) hs18 (gv7_1 hs18) ?_
    refine ev_iload_n (pc := 90) (i := 2) dX7_copy_90 rfl rfl ?_
    obtain ⟨r19, h20, hc21, hL⟩ := cl_un hL
    refine evB_callS_I (pc := 91) (M_Cc_at hc21) dX7_copy_91 mt_Cc_at st_Cc_at ml_St_64 (Nat.le_of_ble_eq_true rfl) rfl rfl (Nat.le_trans (sm_1 (cat_iV _) (sm_1 (cat_aV _ _) sm_z)) (by decide)) ?_
    obtain ⟨r22, h23, hc24, hL⟩ := cl_un hL
    refine evB_callS_V (pc := 94) (M_Cc_put hc24) dX7_copy_94 mt_Cc_put st_Cc_put ml_St_53 (Nat.le_of_ble_eq_true rfl) rfl rfl (Nat.le_trans sm_z (by decide)) ?_
    refine ev_aload_n (pc := 97) (i := 0) dX7_copy_97 rfl rfl ?_
    refine ev_get (pc := 98) (c9 := 7) (k9 := 2) dX7_copy_98 fl_St_18 (by decide) hs17 (gv7_2 hs17) ?_
    refine ev_iload_n (pc := 101) (i := 2) dX7_copy_101 rfl rfl ?_
    refine ev_aload_n (pc := 102) (i := 1) dX7_copy_102 rfl rfl ?_
    refine ev_get (pc := 103) (c9 := 7) (k9 := 2) dX7_copy_103 fl_St_18 (by decide) hs18 (gv7_2 hs18) ?_
    refine ev_iload_n (pc := 106) (i := 2) dX7_copy_106 rfl rfl ?_
    obtain ⟨r25, h26, hc27, hL⟩ := cl_un hL
    refine evB_callS_I (pc := 107) (M_Cc_at hc27) dX7_copy_107 mt_Cc_at st_Cc_at ml_St_64 (Nat.le_of_ble_eq_true rfl) rfl rfl (Nat.le_trans (sm_1 (cat_iV _) (sm_1 (cat_aV _ _) sm_z)) (by decide)) ?_
    obtain ⟨r28, h29, hc30, hL⟩ := cl_un hL
    refine evB_callS_V (pc := 110) (M_Cc_put hc30) dX7_copy_110 mt_Cc_put st_Cc_put ml_St_53 (Nat.le_of_ble_eq_true rfl) rfl rfl (Nat.le_trans sm_z (by decide)) ?_
    refine ev_iinc (pc := 113) dX7_copy_113 rfl (lnl_v (cat_aV _ _) rfl) (Nat.le_of_ble_eq_true rfl) ?_
    refine ev_goto (pc := 116) (tgt := 75) dX7_copy_116 rfl ?_
    exact ev_le (lvle_s (lvle_s (lvle_s lvle_z))) (hk75 _ _ hL)
  · exact evB_vret (pc := 119) dX7_copy_119 rfl hL
set_option maxHeartbeats 1000000 in
set_option maxRecDepth 100000 in
theorem KSt_copy_b75 {ω : Wd} {z : Nat → Prop}  {h h' : Hp} {x0 x1 x2 r : Int}  (hL : St_copy_b75 h x0 x1 x2 = some (r, h')) : EvB ω N_St_copy 2 (QB none z h') z h 75 [some (aV ω x0), some (aV ω x1), some (iV x2)] [] := by
  unfold St_copy_b75 at hL
  refine itr_link (P := fun (s : Hp × Int × Int × Int) (o : Int × Hp) => EvB ω N_St_copy 2 (QB none z o.2) z s.1 75 [some (aV ω s.2.1), some (aV ω s.2.2.1), some (iV s.2.2.2)] []) ?_ _ _ _ hL
  intro k hk s o h9
  have h10 := KSt_copy_b75_body (ω := ω) (z := z) (k75 := k) (h := s.1) (x0 := s.2.1) (x1 := s.2.2.1) (x2 := s.2.2.2) (r := o.1) (h' := o.2) 
  exact h10 hk h9
set_option maxHeartbeats 1000000 in
set_option maxRecDepth 100000 in
theorem KSt_copy_b42_body {ω : Wd} {z : Nat → Prop}  {k42 : Hp × Int × Int × Int → Option (Int × Hp)} {h h' : Hp} {x0 x1 x2 r : Int}  (hk42 : ∀ s o, k42 s = some o → EvB ω N_St_copy 2 (QB none z o.2) z s.1 42 [some (aV ω s.2.1), some (aV ω s.2.2.1), some (iV s.2.2.2)] []) (hL : St_copy_b42_body  k42 h x0 x1 x2 = some (r, h')) : EvB ω N_St_copy 2 (QB none z h') z h 42 [some (aV ω x0), some (aV ω x1), some (iV x2)] [] := by
  unfold St_copy_b42_body at hL
  refine ev_iload_n (pc := 42) (i := 2) dX7_copy_42 rfl rfl ?_
  refine ev_aload_n (pc := 43) (i := 0) dX7_copy_43 rfl rfl ?_
  obtain ⟨hs8, hL⟩ := cC_un hL
  refine ev_get (pc := 44) (c9 := 7) (k9 := 0) dX7_copy_44 fl_St_9 (by decide) hs8 (gv7_0 hs8) ?_
  obtain ⟨q9a, hL⟩ := cN_un hL
  refine ev_alen (pc := 47) dX7_copy_47 q9a ?_
  refine ev_icmp_ge (pc := 48) (tgt := 73) dX7_copy_48 rfl hL rfl (fun hL => ?_) (fun hL => ?_)
  · refine ev_aload_n (pc := 51) (i := 0) dX7_copy_51 rfl rfl ?_
    refine ev_get (pc := 52) (c9 := 7) (k9 := 0) dX7_copy_52 fl_St_9 (by decide) hs8 (gv7_0 hs8) ?_
    refine ev_iload_n (pc := 55) (i := 2) dX7_copy_55 rfl rfl ?_
    refine ev_aload_n (pc := 56) (i := 1) dX7_copy_56 rfl rfl ?_
    obtain ⟨hs10, hL⟩ := cC_un hL
    refine ev_get (pc := 57) (c9 := 7) (k9 := 0) dX7_copy_57 fl_St_9 (by decide) hs10 (gv7_0 hs10) ?_
    refine ev_iload_n (pc := 60) (i := 2) dX7_copy_60 rfl rfl ?_
    obtain ⟨r11, h12, hc13, hL⟩ := cl_un hL
    refine evB_callS_I (pc := 61) (M_Cc_at hc13) dX7_copy_61 mt_Cc_at st_Cc_at ml_St_64 (Nat.le_of_ble_eq_true rfl) rfl rfl (Nat.le_trans (sm_1 (cat_iV _) (sm_1 (cat_aV _ _) sm_z)) (by decide)) ?_
    obtain ⟨r14, h15, hc16, hL⟩ := cl_un hL
    refine evB_callS_V (pc := 64) (M_Cc_put hc16) dX7_copy_64 mt_Cc_put st_Cc_put ml_St_53 (Nat.le_of_ble_eq_true rfl) rfl rfl (Nat.le_trans sm_z (by decide)) ?_
    refine ev_iinc (pc := 67) dX7_copy_67 rfl (lnl_v (cat_aV _ _) rfl) (Nat.le_of_ble_eq_true rfl) ?_
    refine ev_goto (pc := 70) (tgt := 42) dX7_copy_70 rfl ?_
    exact ev_le (lvle_s (lvle_s (lvle_s lvle_z))) (hk42 _ _ hL)
  · refine ev_iconst (pc := 73) dX7_copy_73 ?_
    refine ev_istore_n (pc := 74) (i := 2) dX7_copy_74 rfl (lnl_v (cat_aV _ _) rfl) (Nat.le_of_ble_eq_true rfl) ?_
    exact ev_le (lvle_s (lvle_s (lvle_s lvle_z))) (KSt_copy_b75  hL)
set_option maxHeartbeats 1000000 in
set_option maxRecDepth 100000 in
theorem KSt_copy_b42 {ω : Wd} {z : Nat → Prop}  {h h' : Hp} {x0 x1 x2 r : Int}  (hL : St_copy_b42 h x0 x1 x2 = some (r, h')) : EvB ω N_St_copy 2 (QB none z h') z h 42 [some (aV ω x0), some (aV ω x1), some (iV x2)] [] := by
  unfold St_copy_b42 at hL
  refine itr_link (P := fun (s : Hp × Int × Int × Int) (o : Int × Hp) => EvB ω N_St_copy 2 (QB none z o.2) z s.1 42 [some (aV ω s.2.1), some (aV ω s.2.2.1), some (iV s.2.2.2)] []) ?_ _ _ _ hL
  intro k hk s o h9
  have h10 := KSt_copy_b42_body (ω := ω) (z := z) (k42 := k) (h := s.1) (x0 := s.2.1) (x1 := s.2.2.1) (x2 := s.2.2.2) (r := o.1) (h' := o.2) 
  exact h10 hk h9
set_option maxHeartbeats 1000000 in
set_option maxRecDepth 100000 in
theorem M_St_copy {ω : Wd} {z : Nat → Prop} {h h' : Hp} {a0 a1 r : Int}  (hL : St_copy h a0 a1 = some (r, h')) : CtB ω N_St_copy 2 [aV ω a0, aV ω a1] z h none h' := by
  unfold St_copy at hL
  refine Ct_of (lv := [some (aV ω a0), some (aV ω a1), none]) (by decide) (Nat.le_trans (sl_1 (cat_aV _ _) (sl_1 (cat_aV _ _) sl_z)) (Nat.le_of_ble_eq_true rfl)) (la_1 (cat_aV _ _) (la_1 (cat_aV _ _) (la_n la_z))) ?_
  refine ev_aload_n (pc := 0) (i := 0) dX7_copy_0 rfl rfl ?_
  refine ev_aload_n (pc := 1) (i := 1) dX7_copy_1 rfl rfl ?_
  obtain ⟨hs1, hL⟩ := cC_un hL
  refine ev_get (pc := 2) (c9 := 7) (k9 := 4) dX7_copy_2 fl_St_24 (by decide) hs1 gv7_4 ?_
  obtain ⟨hs2, hL⟩ := cC_un hL
  refine evB_putI (pc := 5) (c9 := 7) (k9 := 4) (kI := 4) dX7_copy_5 fl_St_24 hs2 (by decide) (fun q hq => by cases hq; rfl) rfl rfl rfl ?_
  refine ev_puG hL (fun h3 hL => ?_)
  refine ev_aload_n (pc := 8) (i := 0) dX7_copy_8 rfl rfl ?_
  refine ev_aload_n (pc := 9) (i := 1) dX7_copy_9 rfl rfl ?_
  refine ev_get (pc := 10) (c9 := 7) (k9 := 5) dX7_copy_10 fl_St_28 (by decide) hs1 gv7_5 ?_
  refine evB_putI (pc := 13) (c9 := 7) (k9 := 5) (kI := 5) dX7_copy_13 fl_St_28 hs2 (by decide) (fun q hq => by cases hq; rfl) rfl rfl rfl ?_
  refine ev_puG hL (fun h4 hL => ?_)
  refine ev_aload_n (pc := 16) (i := 0) dX7_copy_16 rfl rfl ?_
  refine ev_aload_n (pc := 17) (i := 1) dX7_copy_17 rfl rfl ?_
  refine ev_get (pc := 18) (c9 := 7) (k9 := 6) dX7_copy_18 fl_St_31 (by decide) hs1 gv7_6 ?_
  refine evB_putI (pc := 21) (c9 := 7) (k9 := 6) (kI := 6) dX7_copy_21 fl_St_31 hs2 (by decide) (fun q hq => by cases hq; rfl) rfl rfl rfl ?_
  refine ev_puG hL (fun h5 hL => ?_)
  refine ev_aload_n (pc := 24) (i := 0) dX7_copy_24 rfl rfl ?_
  refine ev_aload_n (pc := 25) (i := 1) dX7_copy_25 rfl rfl ?_
  refine ev_get (pc := 26) (c9 := 7) (k9 := 7) dX7_copy_26 fl_St_34 (by decide) hs1 gv7_7 ?_
  refine evB_putI (pc := 29) (c9 := 7) (k9 := 7) (kI := 7) dX7_copy_29 fl_St_34 hs2 (by decide) (fun q hq => by cases hq; rfl) rfl rfl rfl ?_
  refine ev_puG hL (fun h6 hL => ?_)
  refine ev_aload_n (pc := 32) (i := 0) dX7_copy_32 rfl rfl ?_
  refine ev_aload_n (pc := 33) (i := 1) dX7_copy_33 rfl rfl ?_
  refine ev_get (pc := 34) (c9 := 7) (k9 := 8) dX7_copy_34 fl_St_37 (by decide) hs1 gv7_8 ?_
  refine evB_putI (pc := 37) (c9 := 7) (k9 := 8) (kI := 8) dX7_copy_37 fl_St_37 hs2 (by decide) (fun q hq => by cases hq; rfl) rfl rfl rfl ?_
  refine ev_puG hL (fun h7 hL => ?_)
  refine ev_iconst (pc := 40) dX7_copy_40 ?_
  refine ev_istore_n (pc := 41) (i := 2) dX7_copy_41 rfl (lnl_v (cat_aV _ _) rfl) (Nat.le_of_ble_eq_true rfl) ?_
  exact ev_le (lvle_s (lvle_s (lvle_s lvle_z))) (KSt_copy_b42  hL)
set_option maxHeartbeats 1000000 in
set_option maxRecDepth 100000 in
theorem M_Cc_copyApart {ω : Wd} {z : Nat → Prop} {h h' : Hp} {a0 r : Int}  (hL : Cc_copyApart h a0 = some (r, h')) : CtB ω N_Cc_copyApart 3 [aV ω a0] z h (some (aV ω r)) h' := by
  unfold Cc_copyApart at hL
  refine Ct_of (lv := [some (aV ω a0), none]) (by decide) (Nat.le_trans (sl_1 (cat_aV _ _) sl_z) (Nat.le_of_ble_eq_true rfl)) (la_1 (cat_aV _ _) (la_n la_z)) ?_
  refine ev_aload_n (pc := 0) (i := 0) dX9_copyApart_0 rfl rfl ?_
  refine ev_iconst (pc := 1) dX9_copyApart_1 ?_
  obtain ⟨hs1, hL⟩ := cC_un hL
  obtain ⟨r2, h3, hc4, hL⟩ := cl_un hL
  refine evB_callV_A (pc := 2) (M_Cc_apartAt hc4) dX9_copyApart_2 mt_Cc_apartAt st_Cc_apartAt ml_Cc_258 hs1 (by decide) ⟨_, rfl, rfl⟩ (Nat.le_of_ble_eq_true rfl) rfl rfl (Nat.le_trans sm_z (by decide)) ?_
  refine ev_astore_n (pc := 5) (i := 1) (isA_aV _ _) dX9_copyApart_5 rfl (lnl_v (cat_aV _ _) rfl) (Nat.le_of_ble_eq_true rfl) ?_
  refine ev_aload_n (pc := 6) (i := 1) dX9_copyApart_6 rfl rfl ?_
  refine ev_aload_n (pc := 7) (i := 0) dX9_copyApart_7 rfl rfl ?_
  refine ev_get (pc := 8) (c9 := 9) (k9 := 10) dX9_copyApart_8 fl_Cc_58 (by decide) hs1 (gv9_10 hs1) ?_
  obtain ⟨hs5, hL⟩ := cC_un hL
  obtain ⟨r6, h7, hc8, hL⟩ := cl_un hL
  refine evB_callV_V (pc := 11) (M_St_copy hc8) dX9_copyApart_11 mt_St_copy st_St_copy ml_Cc_262 hs5 (by decide) ⟨_, rfl, rfl⟩ (Nat.le_of_ble_eq_true rfl) rfl rfl (Nat.le_trans sm_z (by decide)) ?_
  refine ev_aload_n (pc := 14) (i := 1) dX9_copyApart_14 rfl rfl ?_
  exact evB_aret (pc := 15) dX9_copyApart_15 rfl (Or.inl ⟨_, rfl⟩) hL
set_option maxHeartbeats 1000000 in
set_option maxRecDepth 100000 in
theorem M_St_isFree {ω : Wd} {z : Nat → Prop} {h h' : Hp} {a0 a1 a2 r : Int}  (hL : St_isFree h a0 a1 a2 = some (r, h')) : CtB ω N_St_isFree 2 [aV ω a0, iV a1, iV a2] z h (some (iV r)) h' := by
  unfold St_isFree at hL
  refine Ct_of (lv := [some (aV ω a0), some (iV a1), some (iV a2)]) (by decide) (Nat.le_trans (sl_1 (cat_aV _ _) (sl_1 (cat_iV _) (sl_1 (cat_iV _) sl_z))) (Nat.le_of_ble_eq_true rfl)) (la_1 (cat_aV _ _) (la_1 (cat_iV _) (la_1 (cat_iV _) la_z))) ?_
  refine ev_iload_n (pc := 0) (i := 1) dX7_isFree_0 rfl rfl ?_
  refine ev_iload_n (pc := 1) (i := 2) dX7_isFree_1 rfl rfl ?_
  refine ev_icmp_eq (pc := 2) (tgt := 22) dX7_isFree_2 rfl hL rfl (fun hL => ?_) (fun hL => ?_)
  · refine ev_iconst (pc := 22) dX7_isFree_22 ?_
    exact evB_zret (pc := 23) dX7_isFree_23 rfl rfl hL
  · refine ev_aload_n (pc := 5) (i := 0) dX7_isFree_5 rfl rfl ?_
    obtain ⟨hs1, hL⟩ := cC_un hL
    refine ev_get (pc := 6) (c9 := 7) (k9 := 3) dX7_isFree_6 fl_St_21 (by decide) hs1 (gv7_3 hs1) ?_
    refine ev_iload_n (pc := 9) (i := 1) dX7_isFree_9 rfl rfl ?_
    obtain ⟨r2, h3, hc4, hL⟩ := cl_un hL
    refine evB_callS_I (pc := 10) (M_Cc_at hc4) dX7_isFree_10 mt_Cc_at st_Cc_at ml_St_64 (Nat.le_of_ble_eq_true rfl) rfl rfl (Nat.le_trans sm_z (by decide)) ?_
    refine ev_bipush (pc := 13) dX7_isFree_13 (by decide) ?_
    refine ev_icmp_ne (pc := 15) (tgt := 22) dX7_isFree_15 rfl hL rfl (fun hL => ?_) (fun hL => ?_)
    · refine ev_iconst (pc := 18) dX7_isFree_18 ?_
      refine ev_goto (pc := 19) (tgt := 23) dX7_isFree_19 rfl ?_
      exact evB_zret (pc := 23) dX7_isFree_23 rfl rfl hL
    · refine ev_iconst (pc := 22) dX7_isFree_22 ?_
      exact evB_zret (pc := 23) dX7_isFree_23 rfl rfl hL
set_option maxHeartbeats 1000000 in
set_option maxRecDepth 100000 in
theorem KSt_seatTwo_b25_body {ω : Wd} {z : Nat → Prop} {k10 : Hp × Int × Int × Int × Int × Int × Int → Option (Int × Hp)} {k25 : Hp × Int × Int × Int × Int × Int × Int × Int → Option (Int × Hp)} {h h' : Hp} {x0 x1 x2 x3 x4 x5 x6 r : Int} (hk10 : ∀ s o, k10 s = some o → EvB ω N_St_seatTwo 3 (QB none z o.2) z s.1 10 [some (aV ω s.2.1), some (iV s.2.2.1), some (iV s.2.2.2.1), some (iV s.2.2.2.2.1), some (iV s.2.2.2.2.2.1), some (iV s.2.2.2.2.2.2), none] []) (hk25 : ∀ s o, k25 s = some o → EvB ω N_St_seatTwo 3 (QB none z o.2) z s.1 25 [some (aV ω s.2.1), some (iV s.2.2.1), some (iV s.2.2.2.1), some (iV s.2.2.2.2.1), some (iV s.2.2.2.2.2.1), some (iV s.2.2.2.2.2.2.1), some (iV s.2.2.2.2.2.2.2)] []) (hL : St_seatTwo_b25_body k10 k25 h x0 x1 x2 x3 x4 x5 x6 = some (r, h')) : EvB ω N_St_seatTwo 3 (QB none z h') z h 25 [some (aV ω x0), some (iV x1), some (iV x2), some (iV x3), some (iV x4), some (iV x5), some (iV x6)] [] := by
  unfold St_seatTwo_b25_body at hL
  refine ev_iload (pc := 25) dX7_seatTwo_25 rfl ?_
  refine ev_aload_n (pc := 27) (i := 0) dX7_seatTwo_27 rfl rfl ?_
  obtain ⟨hs3, hL⟩ := cC_un hL
  refine ev_get (pc := 28) (c9 := 7) (k9 := 4) dX7_seatTwo_28 fl_St_24 (by decide) hs3 gv7_4 ?_
  refine ev_icmp_ge (pc := 31) (tgt := 88) dX7_seatTwo_31 rfl hL rfl (fun hL => ?_) (fun hL => ?_)
  · refine ev_aload_n (pc := 34) (i := 0) dX7_seatTwo_34 rfl rfl ?_
    refine ev_iload (pc := 35) dX7_seatTwo_35 rfl ?_
    refine ev_iload (pc := 37) dX7_seatTwo_37 rfl ?_
    obtain ⟨r4, h5, hc6, hL⟩ := cl_un hL
    refine evB_callV_I (pc := 39) (M_St_owes hc6) dX7_seatTwo_39 mt_St_owes st_St_owes ml_St_79 hs3 (by decide) ⟨_, rfl, rfl⟩ (Nat.le_of_ble_eq_true rfl) rfl rfl (Nat.le_trans sm_z (by decide)) ?_
    refine ev_iload_n (pc := 42) (i := 2) dX7_seatTwo_42 rfl rfl ?_
    refine ev_icmp_le (pc := 43) (tgt := 82) dX7_seatTwo_43 rfl hL rfl (fun hL => ?_) (fun hL => ?_)
    · refine ev_aload_n (pc := 46) (i := 0) dX7_seatTwo_46 rfl rfl ?_
      refine ev_iload (pc := 47) dX7_seatTwo_47 rfl ?_
      refine ev_iload_n (pc := 49) (i := 1) dX7_seatTwo_49 rfl rfl ?_
      obtain ⟨r7, h8, hc9, hL⟩ := cl_un hL
      refine evB_callV_I (pc := 50) (M_St_isFree hc9) dX7_seatTwo_50 mt_St_isFree st_St_isFree ml_St_92 hs3 (by decide) ⟨_, rfl, rfl⟩ (Nat.le_of_ble_eq_true rfl) rfl rfl (Nat.le_trans sm_z (by decide)) ?_
      refine ev_if_eq (pc := 53) (tgt := 82) dX7_seatTwo_53 rfl hL rfl (fun hL => ?_) (fun hL => ?_)
      · refine ev_iinc (pc := 82) dX7_seatTwo_82 rfl (lnl_v rfl rfl) (Nat.le_of_ble_eq_true rfl) ?_
        refine ev_goto (pc := 85) (tgt := 25) dX7_seatTwo_85 rfl ?_
        exact ev_le (lvle_s (lvle_s (lvle_s (lvle_s (lvle_s (lvle_s (lvle_s lvle_z))))))) (hk25 _ _ hL)
      · refine ev_aload_n (pc := 56) (i := 0) dX7_seatTwo_56 rfl rfl ?_
        refine ev_iload (pc := 57) dX7_seatTwo_57 rfl ?_
        refine ev_iload_n (pc := 59) (i := 1) dX7_seatTwo_59 rfl rfl ?_
        obtain ⟨r10, h11, hc12, hL⟩ := cl_un hL
        refine evB_callV_I (pc := 60) (M_St_isFree hc12) dX7_seatTwo_60 mt_St_isFree st_St_isFree ml_St_92 hs3 (by decide) ⟨_, rfl, rfl⟩ (Nat.le_of_ble_eq_true rfl) rfl rfl (Nat.le_trans sm_z (by decide)) ?_
        refine ev_if_eq (pc := 63) (tgt := 82) dX7_seatTwo_63 rfl hL rfl (fun hL => ?_) (fun hL => ?_)
        · refine ev_iinc (pc := 82) dX7_seatTwo_82 rfl (lnl_v rfl rfl) (Nat.le_of_ble_eq_true rfl) ?_
          refine ev_goto (pc := 85) (tgt := 25) dX7_seatTwo_85 rfl ?_
          exact ev_le (lvle_s (lvle_s (lvle_s (lvle_s (lvle_s (lvle_s (lvle_s lvle_z))))))) (hk25 _ _ hL)
        · refine ev_aload_n (pc := 66) (i := 0) dX7_seatTwo_66 rfl rfl ?_
          refine ev_iload (pc := 67) dX7_seatTwo_67 rfl ?_
          refine ev_iload (pc := 69) dX7_seatTwo_69 rfl ?_
          obtain ⟨r13, h14, hc15, hL⟩ := cl_un hL
          refine evB_callV_I (pc := 71) (M_St_owes hc15) dX7_seatTwo_71 mt_St_owes st_St_owes ml_St_79 hs3 (by decide) ⟨_, rfl, rfl⟩ (Nat.le_of_ble_eq_true rfl) rfl rfl (Nat.le_trans sm_z (by decide)) ?_
          refine ev_istore_n (pc := 74) (i := 2) dX7_seatTwo_74 rfl (lnl_v rfl rfl) (Nat.le_of_ble_eq_true rfl) ?_
          refine ev_iload (pc := 75) dX7_seatTwo_75 rfl ?_
          refine ev_istore_n (pc := 77) (i := 3) dX7_seatTwo_77 rfl (lnl_v rfl rfl) (Nat.le_of_ble_eq_true rfl) ?_
          refine ev_iload (pc := 78) dX7_seatTwo_78 rfl ?_
          refine ev_istore (pc := 80) dX7_seatTwo_80 (lnl_v rfl rfl) (Nat.le_of_ble_eq_true rfl) ?_
          refine ev_iinc (pc := 82) dX7_seatTwo_82 rfl (lnl_v rfl rfl) (Nat.le_of_ble_eq_true rfl) ?_
          refine ev_goto (pc := 85) (tgt := 25) dX7_seatTwo_85 rfl ?_
          exact ev_le (lvle_s (lvle_s (lvle_s (lvle_s (lvle_s (lvle_s (lvle_s lvle_z))))))) (hk25 _ _ hL)
    · refine ev_iinc (pc := 82) dX7_seatTwo_82 rfl (lnl_v rfl rfl) (Nat.le_of_ble_eq_true rfl) ?_
      refine ev_goto (pc := 85) (tgt := 25) dX7_seatTwo_85 rfl ?_
      exact ev_le (lvle_s (lvle_s (lvle_s (lvle_s (lvle_s (lvle_s (lvle_s lvle_z))))))) (hk25 _ _ hL)
  · refine ev_iinc (pc := 88) dX7_seatTwo_88 rfl (lnl_v rfl rfl) (Nat.le_of_ble_eq_true rfl) ?_
    refine ev_goto (pc := 91) (tgt := 10) dX7_seatTwo_91 rfl ?_
    exact ev_le (lvle_s (lvle_s (lvle_s (lvle_s (lvle_s (lvle_s (lvle_n lvle_z))))))) (hk10 _ _ hL)
set_option maxHeartbeats 1000000 in
set_option maxRecDepth 100000 in
theorem KSt_seatTwo_b25 {ω : Wd} {z : Nat → Prop} {k10 : Hp × Int × Int × Int × Int × Int × Int → Option (Int × Hp)} {h h' : Hp} {x0 x1 x2 x3 x4 x5 x6 r : Int} (hk10 : ∀ s o, k10 s = some o → EvB ω N_St_seatTwo 3 (QB none z o.2) z s.1 10 [some (aV ω s.2.1), some (iV s.2.2.1), some (iV s.2.2.2.1), some (iV s.2.2.2.2.1), some (iV s.2.2.2.2.2.1), some (iV s.2.2.2.2.2.2), none] []) (hL : St_seatTwo_b25 k10 h x0 x1 x2 x3 x4 x5 x6 = some (r, h')) : EvB ω N_St_seatTwo 3 (QB none z h') z h 25 [some (aV ω x0), some (iV x1), some (iV x2), some (iV x3), some (iV x4), some (iV x5), some (iV x6)] [] := by
  unfold St_seatTwo_b25 at hL
  refine itr_link (P := fun (s : Hp × Int × Int × Int × Int × Int × Int × Int) (o : Int × Hp) => EvB ω N_St_seatTwo 3 (QB none z o.2) z s.1 25 [some (aV ω s.2.1), some (iV s.2.2.1), some (iV s.2.2.2.1), some (iV s.2.2.2.2.1), some (iV s.2.2.2.2.2.1), some (iV s.2.2.2.2.2.2.1), some (iV s.2.2.2.2.2.2.2)] []) ?_ _ _ _ hL
  intro k hk s o h9
  have h10 := KSt_seatTwo_b25_body (ω := ω) (z := z) (k10 := k10) (k25 := k) (h := s.1) (x0 := s.2.1) (x1 := s.2.2.1) (x2 := s.2.2.2.1) (x3 := s.2.2.2.2.1) (x4 := s.2.2.2.2.2.1) (x5 := s.2.2.2.2.2.2.1) (x6 := s.2.2.2.2.2.2.2) (r := o.1) (h' := o.2) hk10
  exact h10 hk h9
set_option maxHeartbeats 1000000 in
set_option maxRecDepth 100000 in
theorem KSt_seatTwo_b10_body {ω : Wd} {z : Nat → Prop}  {k10 : Hp × Int × Int × Int × Int × Int × Int → Option (Int × Hp)} {h h' : Hp} {x0 x1 x2 x3 x4 x5 r : Int}  (hk10 : ∀ s o, k10 s = some o → EvB ω N_St_seatTwo 3 (QB none z o.2) z s.1 10 [some (aV ω s.2.1), some (iV s.2.2.1), some (iV s.2.2.2.1), some (iV s.2.2.2.2.1), some (iV s.2.2.2.2.2.1), some (iV s.2.2.2.2.2.2), none] []) (hL : St_seatTwo_b10_body  k10 h x0 x1 x2 x3 x4 x5 = some (r, h')) : EvB ω N_St_seatTwo 3 (QB none z h') z h 10 [some (aV ω x0), some (iV x1), some (iV x2), some (iV x3), some (iV x4), some (iV x5), none] [] := by
  unfold St_seatTwo_b10_body at hL
  refine ev_iload (pc := 10) dX7_seatTwo_10 rfl ?_
  refine ev_aload_n (pc := 12) (i := 0) dX7_seatTwo_12 rfl rfl ?_
  obtain ⟨hs1, hL⟩ := cC_un hL
  refine ev_get (pc := 13) (c9 := 7) (k9 := 4) dX7_seatTwo_13 fl_St_24 (by decide) hs1 gv7_4 ?_
  refine ev_icmp_ge (pc := 16) (tgt := 94) dX7_seatTwo_16 rfl hL rfl (fun hL => ?_) (fun hL => ?_)
  · refine ev_iload (pc := 19) dX7_seatTwo_19 rfl ?_
    refine ev_iconst (pc := 21) dX7_seatTwo_21 ?_
    refine ev_iadd (pc := 22) dX7_seatTwo_22 ?_
    refine ev_bdI hL (fun v2 hL => ?_)
    refine ev_istore (pc := 23) dX7_seatTwo_23 (lnl_v rfl rfl) (Nat.le_of_ble_eq_true rfl) ?_
    exact ev_le (lvle_s (lvle_s (lvle_s (lvle_s (lvle_s (lvle_s (lvle_s lvle_z))))))) (KSt_seatTwo_b25 hk10 hL)
  · refine ev_iload_n (pc := 94) (i := 2) dX7_seatTwo_94 rfl rfl ?_
    refine ev_if_le (pc := 95) (tgt := 118) dX7_seatTwo_95 rfl hL rfl (fun hL => ?_) (fun hL => ?_)
    · refine ev_aload_n (pc := 98) (i := 0) dX7_seatTwo_98 rfl rfl ?_
      refine ev_get (pc := 99) (c9 := 7) (k9 := 3) dX7_seatTwo_99 fl_St_21 (by decide) hs1 (gv7_3 hs1) ?_
      refine ev_iload_n (pc := 102) (i := 3) dX7_seatTwo_102 rfl rfl ?_
      refine ev_iload (pc := 103) dX7_seatTwo_103 rfl ?_
      obtain ⟨r16, h17, hc18, hL⟩ := cl_un hL
      refine evB_callS_V (pc := 105) (M_Cc_put hc18) dX7_seatTwo_105 mt_Cc_put st_Cc_put ml_St_53 (Nat.le_of_ble_eq_true rfl) rfl rfl (Nat.le_trans sm_z (by decide)) ?_
      refine ev_aload_n (pc := 108) (i := 0) dX7_seatTwo_108 rfl rfl ?_
      refine ev_get (pc := 109) (c9 := 7) (k9 := 3) dX7_seatTwo_109 fl_St_21 (by decide) hs1 (gv7_3 hs1) ?_
      refine ev_iload (pc := 112) dX7_seatTwo_112 rfl ?_
      refine ev_iload_n (pc := 114) (i := 3) dX7_seatTwo_114 rfl rfl ?_
      obtain ⟨r19, h20, hc21, hL⟩ := cl_un hL
      refine evB_callS_V (pc := 115) (M_Cc_put hc21) dX7_seatTwo_115 mt_Cc_put st_Cc_put ml_St_53 (Nat.le_of_ble_eq_true rfl) rfl rfl (Nat.le_trans sm_z (by decide)) ?_
      exact evB_vret (pc := 118) dX7_seatTwo_118 rfl hL
    · exact evB_vret (pc := 118) dX7_seatTwo_118 rfl hL
set_option maxHeartbeats 1000000 in
set_option maxRecDepth 100000 in
theorem KSt_seatTwo_b10 {ω : Wd} {z : Nat → Prop}  {h h' : Hp} {x0 x1 x2 x3 x4 x5 r : Int}  (hL : St_seatTwo_b10 h x0 x1 x2 x3 x4 x5 = some (r, h')) : EvB ω N_St_seatTwo 3 (QB none z h') z h 10 [some (aV ω x0), some (iV x1), some (iV x2), some (iV x3), some (iV x4), some (iV x5), none] [] := by
  unfold St_seatTwo_b10 at hL
  refine itr_link (P := fun (s : Hp × Int × Int × Int × Int × Int × Int) (o : Int × Hp) => EvB ω N_St_seatTwo 3 (QB none z o.2) z s.1 10 [some (aV ω s.2.1), some (iV s.2.2.1), some (iV s.2.2.2.1), some (iV s.2.2.2.2.1), some (iV s.2.2.2.2.2.1), some (iV s.2.2.2.2.2.2), none] []) ?_ _ _ _ hL
  intro k hk s o h9
  have h10 := KSt_seatTwo_b10_body (ω := ω) (z := z) (k10 := k) (h := s.1) (x0 := s.2.1) (x1 := s.2.2.1) (x2 := s.2.2.2.1) (x3 := s.2.2.2.2.1) (x4 := s.2.2.2.2.2.1) (x5 := s.2.2.2.2.2.2) (r := o.1) (h' := o.2) 
  exact h10 hk h9
set_option maxHeartbeats 1000000 in
set_option maxRecDepth 100000 in
theorem M_St_seatTwo {ω : Wd} {z : Nat → Prop} {h h' : Hp} {a0 a1 r : Int}  (hL : St_seatTwo h a0 a1 = some (r, h')) : CtB ω N_St_seatTwo 3 [aV ω a0, iV a1] z h none h' := by
  unfold St_seatTwo at hL
  refine Ct_of (lv := [some (aV ω a0), some (iV a1), none, none, none, none, none]) (by decide) (Nat.le_trans (sl_1 (cat_aV _ _) (sl_1 (cat_iV _) sl_z)) (Nat.le_of_ble_eq_true rfl)) (la_1 (cat_aV _ _) (la_1 (cat_iV _) (la_n (la_n (la_n (la_n (la_n la_z))))))) ?_
  refine ev_iconst (pc := 0) dX7_seatTwo_0 ?_
  refine ev_istore_n (pc := 1) (i := 2) dX7_seatTwo_1 rfl (lnl_v rfl rfl) (Nat.le_of_ble_eq_true rfl) ?_
  refine ev_iconst (pc := 2) dX7_seatTwo_2 ?_
  refine ev_istore_n (pc := 3) (i := 3) dX7_seatTwo_3 rfl (lnl_v rfl rfl) (Nat.le_of_ble_eq_true rfl) ?_
  refine ev_iconst (pc := 4) dX7_seatTwo_4 ?_
  refine ev_istore (pc := 5) dX7_seatTwo_5 (lnl_v rfl rfl) (Nat.le_of_ble_eq_true rfl) ?_
  refine ev_iconst (pc := 7) dX7_seatTwo_7 ?_
  refine ev_istore (pc := 8) dX7_seatTwo_8 (lnl_v rfl rfl) (Nat.le_of_ble_eq_true rfl) ?_
  exact ev_le (lvle_s (lvle_s (lvle_s (lvle_s (lvle_s (lvle_s (lvle_n lvle_z))))))) (KSt_seatTwo_b10  hL)
set_option maxHeartbeats 1000000 in
set_option maxRecDepth 100000 in
theorem KSt_book_b26_body {ω : Wd} {z : Nat → Prop}  {k26 : Hp × Int × Int × Int → Option (Int × Hp)} {h h' : Hp} {x0 x1 x2 r : Int}  (hk26 : ∀ s o, k26 s = some o → EvB ω N_St_book 4 (QB none z o.2) z s.1 26 [some (aV ω s.2.1), some (iV s.2.2.1), some (iV s.2.2.2)] []) (hL : St_book_b26_body  k26 h x0 x1 x2 = some (r, h')) : EvB ω N_St_book 4 (QB none z h') z h 26 [some (aV ω x0), some (iV x1), some (iV x2)] [] := by
  unfold St_book_b26_body at hL
  refine ev_iload_n (pc := 26) (i := 2) dX7_book_26 rfl rfl ?_
  refine ev_iconst (pc := 27) dX7_book_27 ?_
  refine ev_icmp_ge (pc := 28) (tgt := 42) dX7_book_28 rfl hL rfl (fun hL => ?_) (fun hL => ?_)
  · refine ev_aload_n (pc := 31) (i := 0) dX7_book_31 rfl rfl ?_
    refine ev_iload_n (pc := 32) (i := 1) dX7_book_32 rfl rfl ?_
    obtain ⟨hs5, hL⟩ := cC_un hL
    obtain ⟨r6, h7, hc8, hL⟩ := cl_un hL
    refine evB_callV_V (pc := 33) (M_St_seatTwo hc8) dX7_book_33 mt_St_seatTwo st_St_seatTwo ml_St_88 hs5 (by decide) ⟨_, rfl, rfl⟩ (Nat.le_of_ble_eq_true rfl) rfl rfl (Nat.le_trans sm_z (by decide)) ?_
    refine ev_iinc (pc := 36) dX7_book_36 rfl (lnl_v rfl rfl) (Nat.le_of_ble_eq_true rfl) ?_
    refine ev_goto (pc := 39) (tgt := 26) dX7_book_39 rfl ?_
    exact ev_le (lvle_s (lvle_s (lvle_s lvle_z))) (hk26 _ _ hL)
  · exact evB_vret (pc := 42) dX7_book_42 rfl hL
set_option maxHeartbeats 1000000 in
set_option maxRecDepth 100000 in
theorem KSt_book_b26 {ω : Wd} {z : Nat → Prop}  {h h' : Hp} {x0 x1 x2 r : Int}  (hL : St_book_b26 h x0 x1 x2 = some (r, h')) : EvB ω N_St_book 4 (QB none z h') z h 26 [some (aV ω x0), some (iV x1), some (iV x2)] [] := by
  unfold St_book_b26 at hL
  refine itr_link (P := fun (s : Hp × Int × Int × Int) (o : Int × Hp) => EvB ω N_St_book 4 (QB none z o.2) z s.1 26 [some (aV ω s.2.1), some (iV s.2.2.1), some (iV s.2.2.2)] []) ?_ _ _ _ hL
  intro k hk s o h9
  have h10 := KSt_book_b26_body (ω := ω) (z := z) (k26 := k) (h := s.1) (x0 := s.2.1) (x1 := s.2.2.1) (x2 := s.2.2.2) (r := o.1) (h' := o.2) 
  exact h10 hk h9
set_option maxHeartbeats 1000000 in
set_option maxRecDepth 100000 in
theorem KSt_book_b2_body {ω : Wd} {z : Nat → Prop}  {k2 : Hp × Int × Int × Int → Option (Int × Hp)} {h h' : Hp} {x0 x1 x2 r : Int}  (hk2 : ∀ s o, k2 s = some o → EvB ω N_St_book 4 (QB none z o.2) z s.1 2 [some (aV ω s.2.1), some (iV s.2.2.1), some (iV s.2.2.2)] []) (hL : St_book_b2_body  k2 h x0 x1 x2 = some (r, h')) : EvB ω N_St_book 4 (QB none z h') z h 2 [some (aV ω x0), some (iV x1), some (iV x2)] [] := by
  unfold St_book_b2_body at hL
  refine ev_iload_n (pc := 2) (i := 2) dX7_book_2 rfl rfl ?_
  refine ev_bipush (pc := 3) dX7_book_3 (by decide) ?_
  refine ev_icmp_ge (pc := 5) (tgt := 24) dX7_book_5 rfl hL rfl (fun hL => ?_) (fun hL => ?_)
  · refine ev_aload_n (pc := 8) (i := 0) dX7_book_8 rfl rfl ?_
    obtain ⟨hs1, hL⟩ := cC_un hL
    refine ev_get (pc := 9) (c9 := 7) (k9 := 3) dX7_book_9 fl_St_21 (by decide) hs1 (gv7_3 hs1) ?_
    refine ev_iload_n (pc := 12) (i := 2) dX7_book_12 rfl rfl ?_
    refine ev_bipush (pc := 13) dX7_book_13 (by decide) ?_
    obtain ⟨r2, h3, hc4, hL⟩ := cl_un hL
    refine evB_callS_V (pc := 15) (M_Cc_put hc4) dX7_book_15 mt_Cc_put st_Cc_put ml_St_53 (Nat.le_of_ble_eq_true rfl) rfl rfl (Nat.le_trans sm_z (by decide)) ?_
    refine ev_iinc (pc := 18) dX7_book_18 rfl (lnl_v rfl rfl) (Nat.le_of_ble_eq_true rfl) ?_
    refine ev_goto (pc := 21) (tgt := 2) dX7_book_21 rfl ?_
    exact ev_le (lvle_s (lvle_s (lvle_s lvle_z))) (hk2 _ _ hL)
  · refine ev_iconst (pc := 24) dX7_book_24 ?_
    refine ev_istore_n (pc := 25) (i := 2) dX7_book_25 rfl (lnl_v rfl rfl) (Nat.le_of_ble_eq_true rfl) ?_
    exact ev_le (lvle_s (lvle_s (lvle_s lvle_z))) (KSt_book_b26  hL)
set_option maxHeartbeats 1000000 in
set_option maxRecDepth 100000 in
theorem KSt_book_b2 {ω : Wd} {z : Nat → Prop}  {h h' : Hp} {x0 x1 x2 r : Int}  (hL : St_book_b2 h x0 x1 x2 = some (r, h')) : EvB ω N_St_book 4 (QB none z h') z h 2 [some (aV ω x0), some (iV x1), some (iV x2)] [] := by
  unfold St_book_b2 at hL
  refine itr_link (P := fun (s : Hp × Int × Int × Int) (o : Int × Hp) => EvB ω N_St_book 4 (QB none z o.2) z s.1 2 [some (aV ω s.2.1), some (iV s.2.2.1), some (iV s.2.2.2)] []) ?_ _ _ _ hL
  intro k hk s o h9
  have h10 := KSt_book_b2_body (ω := ω) (z := z) (k2 := k) (h := s.1) (x0 := s.2.1) (x1 := s.2.2.1) (x2 := s.2.2.2) (r := o.1) (h' := o.2) 
  exact h10 hk h9
set_option maxHeartbeats 1000000 in
set_option maxRecDepth 100000 in
theorem M_St_book {ω : Wd} {z : Nat → Prop} {h h' : Hp} {a0 a1 r : Int}  (hL : St_book h a0 a1 = some (r, h')) : CtB ω N_St_book 4 [aV ω a0, iV a1] z h none h' := by
  unfold St_book at hL
  refine Ct_of (lv := [some (aV ω a0), some (iV a1), none]) (by decide) (Nat.le_trans (sl_1 (cat_aV _ _) (sl_1 (cat_iV _) sl_z)) (Nat.le_of_ble_eq_true rfl)) (la_1 (cat_aV _ _) (la_1 (cat_iV _) (la_n la_z))) ?_
  refine ev_iconst (pc := 0) dX7_book_0 ?_
  refine ev_istore_n (pc := 1) (i := 2) dX7_book_1 rfl (lnl_v rfl rfl) (Nat.le_of_ble_eq_true rfl) ?_
  exact ev_le (lvle_s (lvle_s (lvle_s lvle_z))) (KSt_book_b2  hL)
set_option maxHeartbeats 1000000 in
set_option maxRecDepth 100000 in
theorem M_St_owe {ω : Wd} {z : Nat → Prop} {h h' : Hp} {a0 a1 a2 a3 r : Int}  (hL : St_owe h a0 a1 a2 a3 = some (r, h')) : CtB ω N_St_owe 3 [aV ω a0, iV a1, iV a2, iV a3] z h none h' := by
  unfold St_owe at hL
  refine Ct_of (lv := [some (aV ω a0), some (iV a1), some (iV a2), some (iV a3), none]) (by decide) (Nat.le_trans (sl_1 (cat_aV _ _) (sl_1 (cat_iV _) (sl_1 (cat_iV _) (sl_1 (cat_iV _) sl_z)))) (Nat.le_of_ble_eq_true rfl)) (la_1 (cat_aV _ _) (la_1 (cat_iV _) (la_1 (cat_iV _) (la_1 (cat_iV _) (la_n la_z))))) ?_
  refine ev_bipush (pc := 0) dX7_owe_0 (by decide) ?_
  refine ev_aload_n (pc := 2) (i := 0) dX7_owe_2 rfl rfl ?_
  refine ev_iload_n (pc := 3) (i := 1) dX7_owe_3 rfl rfl ?_
  refine ev_iload_n (pc := 4) (i := 2) dX7_owe_4 rfl rfl ?_
  obtain ⟨hs1, hL⟩ := cC_un hL
  obtain ⟨r2, h3, hc4, hL⟩ := cl_un hL
  refine evB_callV_I (pc := 5) (M_St_owes hc4) dX7_owe_5 mt_St_owes st_St_owes ml_St_79 hs1 (by decide) ⟨_, rfl, rfl⟩ (Nat.le_of_ble_eq_true rfl) rfl rfl (Nat.le_trans (sm_1 (cat_iV _) sm_z) (by decide)) ?_
  refine ev_iload_n (pc := 8) (i := 3) dX7_owe_8 rfl rfl ?_
  refine ev_iadd (pc := 9) dX7_owe_9 ?_
  refine ev_min (pc := 10) dX7_owe_10 wm_St_82 w_s_min w_i_Math w_k_min (Nat.le_trans sm_z (by decide)) (Nat.le_of_ble_eq_true rfl) (Nat.le_refl _) (Nat.le_refl _) ?_
  refine ev_bdI hL (fun v5 hL => ?_)
  refine ev_istore (pc := 13) dX7_owe_13 (lnl_v rfl rfl) (Nat.le_of_ble_eq_true rfl) ?_
  refine ev_aload_n (pc := 15) (i := 0) dX7_owe_15 rfl rfl ?_
  refine ev_get (pc := 16) (c9 := 7) (k9 := 0) dX7_owe_16 fl_St_9 (by decide) hs1 (gv7_0 hs1) ?_
  refine ev_iload_n (pc := 19) (i := 1) dX7_owe_19 rfl rfl ?_
  refine ev_bipush (pc := 20) dX7_owe_20 (by decide) ?_
  refine ev_imul (pc := 22) dX7_owe_22 ?_
  refine ev_iload_n (pc := 23) (i := 2) dX7_owe_23 rfl rfl ?_
  refine ev_iadd (pc := 24) dX7_owe_24 ?_
  refine ev_iload (pc := 25) dX7_owe_25 rfl ?_
  obtain ⟨r6, h7, hc8, hL⟩ := cl_un hL
  refine evB_callS_V (pc := 27) (M_Cc_put hc8) dX7_owe_27 mt_Cc_put st_Cc_put ml_St_53 (Nat.le_of_ble_eq_true rfl) rfl rfl (Nat.le_trans sm_z (by decide)) ?_
  refine ev_aload_n (pc := 30) (i := 0) dX7_owe_30 rfl rfl ?_
  refine ev_get (pc := 31) (c9 := 7) (k9 := 0) dX7_owe_31 fl_St_9 (by decide) hs1 (gv7_0 hs1) ?_
  refine ev_iload_n (pc := 34) (i := 2) dX7_owe_34 rfl rfl ?_
  refine ev_bipush (pc := 35) dX7_owe_35 (by decide) ?_
  refine ev_imul (pc := 37) dX7_owe_37 ?_
  refine ev_iload_n (pc := 38) (i := 1) dX7_owe_38 rfl rfl ?_
  refine ev_iadd (pc := 39) dX7_owe_39 ?_
  refine ev_iload (pc := 40) dX7_owe_40 rfl ?_
  obtain ⟨r9, h10, hc11, hL⟩ := cl_un hL
  refine evB_callS_V (pc := 42) (M_Cc_put hc11) dX7_owe_42 mt_Cc_put st_Cc_put ml_St_53 (Nat.le_of_ble_eq_true rfl) rfl rfl (Nat.le_trans sm_z (by decide)) ?_
  exact evB_vret (pc := 45) dX7_owe_45 rfl hL
set_option maxHeartbeats 1000000 in
set_option maxRecDepth 100000 in
theorem KSt_brood_b59_body {ω : Wd} {z : Nat → Prop}  {k59 : Hp × Int × Int × Int → Option (Int × Hp)} {h h' : Hp} {x0 x1 x2 r : Int}  (hk59 : ∀ s o, k59 s = some o → EvB ω N_St_brood 4 (QB none z o.2) z s.1 59 [some (aV ω s.2.1), some (iV s.2.2.1), some (iV s.2.2.2)] []) (hL : St_brood_b59_body  k59 h x0 x1 x2 = some (r, h')) : EvB ω N_St_brood 4 (QB none z h') z h 59 [some (aV ω x0), some (iV x1), some (iV x2)] [] := by
  unfold St_brood_b59_body at hL
  refine ev_iload_n (pc := 59) (i := 2) dX7_brood_59 rfl rfl ?_
  refine ev_aload_n (pc := 60) (i := 0) dX7_brood_60 rfl rfl ?_
  obtain ⟨hs16, hL⟩ := cC_un hL
  refine ev_get (pc := 61) (c9 := 7) (k9 := 4) dX7_brood_61 fl_St_24 (by decide) hs16 gv7_4 ?_
  refine ev_icmp_ge (pc := 64) (tgt := 85) dX7_brood_64 rfl hL rfl (fun hL => ?_) (fun hL => ?_)
  · refine ev_iload_n (pc := 67) (i := 2) dX7_brood_67 rfl rfl ?_
    refine ev_iload_n (pc := 68) (i := 1) dX7_brood_68 rfl rfl ?_
    refine ev_icmp_eq (pc := 69) (tgt := 79) dX7_brood_69 rfl hL rfl (fun hL => ?_) (fun hL => ?_)
    · refine ev_iinc (pc := 79) dX7_brood_79 rfl (lnl_v rfl rfl) (Nat.le_of_ble_eq_true rfl) ?_
      refine ev_goto (pc := 82) (tgt := 59) dX7_brood_82 rfl ?_
      exact ev_le (lvle_s (lvle_s (lvle_s lvle_z))) (hk59 _ _ hL)
    · refine ev_aload_n (pc := 72) (i := 0) dX7_brood_72 rfl rfl ?_
      refine ev_iload_n (pc := 73) (i := 1) dX7_brood_73 rfl rfl ?_
      refine ev_iload_n (pc := 74) (i := 2) dX7_brood_74 rfl rfl ?_
      refine ev_iconst (pc := 75) dX7_brood_75 ?_
      obtain ⟨r17, h18, hc19, hL⟩ := cl_un hL
      refine evB_callV_V (pc := 76) (M_St_owe hc19) dX7_brood_76 mt_St_owe st_St_owe ml_St_102 hs16 (by decide) ⟨_, rfl, rfl⟩ (Nat.le_of_ble_eq_true rfl) rfl rfl (Nat.le_trans sm_z (by decide)) ?_
      refine ev_iinc (pc := 79) dX7_brood_79 rfl (lnl_v rfl rfl) (Nat.le_of_ble_eq_true rfl) ?_
      refine ev_goto (pc := 82) (tgt := 59) dX7_brood_82 rfl ?_
      exact ev_le (lvle_s (lvle_s (lvle_s lvle_z))) (hk59 _ _ hL)
  · exact evB_vret (pc := 85) dX7_brood_85 rfl hL
set_option maxHeartbeats 1000000 in
set_option maxRecDepth 100000 in
theorem KSt_brood_b59 {ω : Wd} {z : Nat → Prop}  {h h' : Hp} {x0 x1 x2 r : Int}  (hL : St_brood_b59 h x0 x1 x2 = some (r, h')) : EvB ω N_St_brood 4 (QB none z h') z h 59 [some (aV ω x0), some (iV x1), some (iV x2)] [] := by
  unfold St_brood_b59 at hL
  refine itr_link (P := fun (s : Hp × Int × Int × Int) (o : Int × Hp) => EvB ω N_St_brood 4 (QB none z o.2) z s.1 59 [some (aV ω s.2.1), some (iV s.2.2.1), some (iV s.2.2.2)] []) ?_ _ _ _ hL
  intro k hk s o h9
  have h10 := KSt_brood_b59_body (ω := ω) (z := z) (k59 := k) (h := s.1) (x0 := s.2.1) (x1 := s.2.2.1) (x2 := s.2.2.2) (r := o.1) (h' := o.2) 
  exact h10 hk h9
set_option maxHeartbeats 1000000 in
set_option maxRecDepth 100000 in
theorem M_St_brood {ω : Wd} {z : Nat → Prop} {h h' : Hp} {a0 a1 r : Int}  (hL : St_brood h a0 a1 = some (r, h')) : CtB ω N_St_brood 4 [aV ω a0, iV a1] z h none h' := by
  unfold St_brood at hL
  refine Ct_of (lv := [some (aV ω a0), some (iV a1), none]) (by decide) (Nat.le_trans (sl_1 (cat_aV _ _) (sl_1 (cat_iV _) sl_z)) (Nat.le_of_ble_eq_true rfl)) (la_1 (cat_aV _ _) (la_1 (cat_iV _) (la_n la_z))) ?_
  refine ev_aload_n (pc := 0) (i := 0) dX7_brood_0 rfl rfl ?_
  refine ev_iload_n (pc := 1) (i := 1) dX7_brood_1 rfl rfl ?_
  obtain ⟨hs1, hL⟩ := cC_un hL
  obtain ⟨r2, h3, hc4, hL⟩ := cl_un hL
  refine evB_callV_I (pc := 2) (M_St_lonelyOf hc4) dX7_brood_2 mt_St_lonelyOf st_St_lonelyOf ml_St_72 hs1 (by decide) ⟨_, rfl, rfl⟩ (Nat.le_of_ble_eq_true rfl) rfl rfl (Nat.le_trans sm_z (by decide)) ?_
  refine ev_bipush (pc := 5) dX7_brood_5 (by decide) ?_
  refine ev_icmp_ge (pc := 7) (tgt := 26) dX7_brood_7 rfl hL rfl (fun hL => ?_) (fun hL => ?_)
  · refine ev_aload_n (pc := 10) (i := 0) dX7_brood_10 rfl rfl ?_
    refine ev_get (pc := 11) (c9 := 7) (k9 := 1) dX7_brood_11 fl_St_15 (by decide) hs1 (gv7_1 hs1) ?_
    refine ev_iload_n (pc := 14) (i := 1) dX7_brood_14 rfl rfl ?_
    refine ev_aload_n (pc := 15) (i := 0) dX7_brood_15 rfl rfl ?_
    refine ev_iload_n (pc := 16) (i := 1) dX7_brood_16 rfl rfl ?_
    obtain ⟨r5, h6, hc7, hL⟩ := cl_un hL
    refine evB_callV_I (pc := 17) (M_St_lonelyOf hc7) dX7_brood_17 mt_St_lonelyOf st_St_lonelyOf ml_St_72 hs1 (by decide) ⟨_, rfl, rfl⟩ (Nat.le_of_ble_eq_true rfl) rfl rfl (Nat.le_trans (sm_1 (cat_iV _) (sm_1 (cat_aV _ _) sm_z)) (by decide)) ?_
    refine ev_iconst (pc := 20) dX7_brood_20 ?_
    refine ev_iadd (pc := 21) dX7_brood_21 ?_
    obtain ⟨r8, h9, hc10, hL⟩ := cl_un hL
    refine evB_callS_V (pc := 22) (M_Cc_put hc10) dX7_brood_22 mt_Cc_put st_Cc_put ml_St_53 (Nat.le_of_ble_eq_true rfl) rfl rfl (Nat.le_trans sm_z (by decide)) ?_
    exact evB_vret (pc := 25) dX7_brood_25 rfl hL
  · refine ev_aload_n (pc := 26) (i := 0) dX7_brood_26 rfl rfl ?_
    refine ev_get (pc := 27) (c9 := 7) (k9 := 1) dX7_brood_27 fl_St_15 (by decide) hs1 (gv7_1 hs1) ?_
    refine ev_iload_n (pc := 30) (i := 1) dX7_brood_30 rfl rfl ?_
    refine ev_iconst (pc := 31) dX7_brood_31 ?_
    obtain ⟨r11, h12, hc13, hL⟩ := cl_un hL
    refine evB_callS_V (pc := 32) (M_Cc_put hc13) dX7_brood_32 mt_Cc_put st_Cc_put ml_St_53 (Nat.le_of_ble_eq_true rfl) rfl rfl (Nat.le_trans sm_z (by decide)) ?_
    refine ev_aload_n (pc := 35) (i := 0) dX7_brood_35 rfl rfl ?_
    refine ev_dup (pc := 36) dX7_brood_36 (cat_aV _ _) ?_
    refine ev_get (pc := 37) (c9 := 7) (k9 := 7) dX7_brood_37 fl_St_34 (by decide) hs1 gv7_7 ?_
    refine ev_iconst (pc := 40) dX7_brood_40 ?_
    refine ev_iadd (pc := 41) dX7_brood_41 ?_
    refine evB_putI (pc := 42) (c9 := 7) (k9 := 7) (kI := 7) dX7_brood_42 fl_St_34 hs1 (by decide) (fun q hq => by cases hq; rfl) rfl rfl rfl ?_
    refine ev_puG hL (fun h14 hL => ?_)
    refine ev_aload_n (pc := 45) (i := 0) dX7_brood_45 rfl rfl ?_
    refine ev_dup (pc := 46) dX7_brood_46 (cat_aV _ _) ?_
    refine ev_get (pc := 47) (c9 := 7) (k9 := 10) dX7_brood_47 fl_St_43 (by decide) hs1 gv7_10 ?_
    refine ev_iconst (pc := 50) dX7_brood_50 ?_
    refine ev_iload_n (pc := 51) (i := 1) dX7_brood_51 rfl rfl ?_
    refine ev_ishl (pc := 52) dX7_brood_52 ?_
    refine ev_ior (pc := 53) dX7_brood_53 ?_
    refine evB_putI (pc := 54) (c9 := 7) (k9 := 10) (kI := 10) dX7_brood_54 fl_St_43 hs1 (by decide) (fun q hq => by cases hq; rfl) rfl rfl rfl ?_
    refine ev_puG hL (fun h15 hL => ?_)
    refine ev_iconst (pc := 57) dX7_brood_57 ?_
    refine ev_istore_n (pc := 58) (i := 2) dX7_brood_58 rfl (lnl_v rfl rfl) (Nat.le_of_ble_eq_true rfl) ?_
    exact ev_le (lvle_s (lvle_s (lvle_s lvle_z))) (KSt_brood_b59  hL)
set_option maxHeartbeats 1000000 in
set_option maxRecDepth 100000 in
theorem M_St_cheer {ω : Wd} {z : Nat → Prop} {h h' : Hp} {a0 a1 a2 r : Int}  (hL : St_cheer h a0 a1 a2 = some (r, h')) : CtB ω N_St_cheer 3 [aV ω a0, iV a1, iV a2] z h none h' := by
  unfold St_cheer at hL
  refine Ct_of (lv := [some (aV ω a0), some (iV a1), some (iV a2)]) (by decide) (Nat.le_trans (sl_1 (cat_aV _ _) (sl_1 (cat_iV _) (sl_1 (cat_iV _) sl_z))) (Nat.le_of_ble_eq_true rfl)) (la_1 (cat_aV _ _) (la_1 (cat_iV _) (la_1 (cat_iV _) la_z))) ?_
  refine ev_aload_n (pc := 0) (i := 0) dX7_cheer_0 rfl rfl ?_
  obtain ⟨hs1, hL⟩ := cC_un hL
  refine ev_get (pc := 1) (c9 := 7) (k9 := 1) dX7_cheer_1 fl_St_15 (by decide) hs1 (gv7_1 hs1) ?_
  refine ev_iload_n (pc := 4) (i := 1) dX7_cheer_4 rfl rfl ?_
  refine ev_iconst (pc := 5) dX7_cheer_5 ?_
  refine ev_aload_n (pc := 6) (i := 0) dX7_cheer_6 rfl rfl ?_
  refine ev_iload_n (pc := 7) (i := 1) dX7_cheer_7 rfl rfl ?_
  obtain ⟨r2, h3, hc4, hL⟩ := cl_un hL
  refine evB_callV_I (pc := 8) (M_St_lonelyOf hc4) dX7_cheer_8 mt_St_lonelyOf st_St_lonelyOf ml_St_72 hs1 (by decide) ⟨_, rfl, rfl⟩ (Nat.le_of_ble_eq_true rfl) rfl rfl (Nat.le_trans (sm_1 (cat_iV _) (sm_1 (cat_iV _) (sm_1 (cat_aV _ _) sm_z))) (by decide)) ?_
  refine ev_iload_n (pc := 11) (i := 2) dX7_cheer_11 rfl rfl ?_
  refine ev_isub (pc := 12) dX7_cheer_12 ?_
  refine ev_max (pc := 13) dX7_cheer_13 wm_St_73 w_s_max w_i_Math w_k_max (Nat.le_trans (sm_1 (cat_iV _) (sm_1 (cat_aV _ _) sm_z)) (by decide)) (Nat.le_of_ble_eq_true rfl) (Nat.le_refl _) (Nat.le_refl _) ?_
  obtain ⟨r5, h6, hc7, hL⟩ := cl_un hL
  refine evB_callS_V (pc := 16) (M_Cc_put hc7) dX7_cheer_16 mt_Cc_put st_Cc_put ml_St_53 (Nat.le_of_ble_eq_true rfl) rfl rfl (Nat.le_trans sm_z (by decide)) ?_
  exact evB_vret (pc := 19) dX7_cheer_19 rfl hL
set_option maxHeartbeats 1000000 in
set_option maxRecDepth 100000 in
theorem KSt_pass_b86_body {ω : Wd} {z : Nat → Prop}  {k86 : Hp × Int × Int → Option (Int × Hp)} {h h' : Hp} {x0 x2 r : Int}  (hk86 : ∀ s o, k86 s = some o → EvB ω N_St_pass 5 (QB none z o.2) z s.1 86 [some (aV ω s.2.1), none, some (iV s.2.2), none] []) (hL : St_pass_b86_body  k86 h x0 x2 = some (r, h')) : EvB ω N_St_pass 5 (QB none z h') z h 86 [some (aV ω x0), none, some (iV x2), none] [] := by
  unfold St_pass_b86_body at hL
  refine ev_iload_n (pc := 86) (i := 2) dX7_pass_86 rfl rfl ?_
  refine ev_aload_n (pc := 87) (i := 0) dX7_pass_87 rfl rfl ?_
  obtain ⟨hs19, hL⟩ := cC_un hL
  refine ev_get (pc := 88) (c9 := 7) (k9 := 4) dX7_pass_88 fl_St_24 (by decide) hs19 gv7_4 ?_
  refine ev_icmp_ge (pc := 91) (tgt := 118) dX7_pass_91 rfl hL rfl (fun hL => ?_) (fun hL => ?_)
  · refine ev_aload_n (pc := 94) (i := 0) dX7_pass_94 rfl rfl ?_
    refine ev_get (pc := 95) (c9 := 7) (k9 := 3) dX7_pass_95 fl_St_21 (by decide) hs19 (gv7_3 hs19) ?_
    refine ev_iload_n (pc := 98) (i := 2) dX7_pass_98 rfl rfl ?_
    obtain ⟨r20, h21, hc22, hL⟩ := cl_un hL
    refine evB_callS_I (pc := 99) (M_Cc_at hc22) dX7_pass_99 mt_Cc_at st_Cc_at ml_St_64 (Nat.le_of_ble_eq_true rfl) rfl rfl (Nat.le_trans sm_z (by decide)) ?_
    refine ev_bipush (pc := 102) dX7_pass_102 (by decide) ?_
    refine ev_icmp_ne (pc := 104) (tgt := 112) dX7_pass_104 rfl hL rfl (fun hL => ?_) (fun hL => ?_)
    · refine ev_aload_n (pc := 107) (i := 0) dX7_pass_107 rfl rfl ?_
      refine ev_iload_n (pc := 108) (i := 2) dX7_pass_108 rfl rfl ?_
      obtain ⟨r23, h24, hc25, hL⟩ := cl_un hL
      refine evB_callV_V (pc := 109) (M_St_brood hc25) dX7_pass_109 mt_St_brood st_St_brood ml_St_106 hs19 (by decide) ⟨_, rfl, rfl⟩ (Nat.le_of_ble_eq_true rfl) rfl rfl (Nat.le_trans sm_z (by decide)) ?_
      refine ev_iinc (pc := 112) dX7_pass_112 rfl (lnl_n rfl) (Nat.le_of_ble_eq_true rfl) ?_
      refine ev_goto (pc := 115) (tgt := 86) dX7_pass_115 rfl ?_
      exact ev_le (lvle_s (lvle_n (lvle_s (lvle_n lvle_z)))) (hk86 _ _ hL)
    · refine ev_iinc (pc := 112) dX7_pass_112 rfl (lnl_n rfl) (Nat.le_of_ble_eq_true rfl) ?_
      refine ev_goto (pc := 115) (tgt := 86) dX7_pass_115 rfl ?_
      exact ev_le (lvle_s (lvle_n (lvle_s (lvle_n lvle_z)))) (hk86 _ _ hL)
  · exact evB_vret (pc := 118) dX7_pass_118 rfl hL
set_option maxHeartbeats 1000000 in
set_option maxRecDepth 100000 in
theorem KSt_pass_b86 {ω : Wd} {z : Nat → Prop}  {h h' : Hp} {x0 x2 r : Int}  (hL : St_pass_b86 h x0 x2 = some (r, h')) : EvB ω N_St_pass 5 (QB none z h') z h 86 [some (aV ω x0), none, some (iV x2), none] [] := by
  unfold St_pass_b86 at hL
  refine itr_link (P := fun (s : Hp × Int × Int) (o : Int × Hp) => EvB ω N_St_pass 5 (QB none z o.2) z s.1 86 [some (aV ω s.2.1), none, some (iV s.2.2), none] []) ?_ _ _ _ hL
  intro k hk s o h9
  have h10 := KSt_pass_b86_body (ω := ω) (z := z) (k86 := k) (h := s.1) (x0 := s.2.1) (x2 := s.2.2) (r := o.1) (h' := o.2) 
  exact h10 hk h9
set_option maxHeartbeats 1000000 in
set_option maxRecDepth 100000 in
theorem KSt_pass_b27_body {ω : Wd} {z : Nat → Prop}  {k27 : Hp × Int × Int → Option (Int × Hp)} {h h' : Hp} {x0 x2 r : Int}  (hk27 : ∀ s o, k27 s = some o → EvB ω N_St_pass 5 (QB none z o.2) z s.1 27 [some (aV ω s.2.1), none, some (iV s.2.2), none] []) (hL : St_pass_b27_body  k27 h x0 x2 = some (r, h')) : EvB ω N_St_pass 5 (QB none z h') z h 27 [some (aV ω x0), none, some (iV x2), none] [] := by
  unfold St_pass_b27_body at hL
  refine ev_iload_n (pc := 27) (i := 2) dX7_pass_27 rfl rfl ?_
  refine ev_aload_n (pc := 28) (i := 0) dX7_pass_28 rfl rfl ?_
  obtain ⟨hs8, hL⟩ := cC_un hL
  refine ev_get (pc := 29) (c9 := 7) (k9 := 4) dX7_pass_29 fl_St_24 (by decide) hs8 gv7_4 ?_
  refine ev_icmp_ge (pc := 32) (tgt := 84) dX7_pass_32 rfl hL rfl (fun hL => ?_) (fun hL => ?_)
  · refine ev_aload_n (pc := 35) (i := 0) dX7_pass_35 rfl rfl ?_
    refine ev_get (pc := 36) (c9 := 7) (k9 := 3) dX7_pass_36 fl_St_21 (by decide) hs8 (gv7_3 hs8) ?_
    refine ev_iload_n (pc := 39) (i := 2) dX7_pass_39 rfl rfl ?_
    obtain ⟨r9, h10, hc11, hL⟩ := cl_un hL
    refine evB_callS_I (pc := 40) (M_Cc_at hc11) dX7_pass_40 mt_Cc_at st_Cc_at ml_St_64 (Nat.le_of_ble_eq_true rfl) rfl rfl (Nat.le_trans sm_z (by decide)) ?_
    refine ev_istore_n (pc := 43) (i := 3) dX7_pass_43 rfl (lnl_v rfl rfl) (Nat.le_of_ble_eq_true rfl) ?_
    refine ev_iload_n (pc := 44) (i := 3) dX7_pass_44 rfl rfl ?_
    refine ev_bipush (pc := 45) dX7_pass_45 (by decide) ?_
    refine ev_icmp_eq (pc := 47) (tgt := 78) dX7_pass_47 rfl hL rfl (fun hL => ?_) (fun hL => ?_)
    · refine ev_iinc (pc := 78) dX7_pass_78 rfl (lnl_n rfl) (Nat.le_of_ble_eq_true rfl) ?_
      refine ev_goto (pc := 81) (tgt := 27) dX7_pass_81 rfl ?_
      exact ev_le (lvle_s (lvle_n (lvle_s (lvle_n lvle_z)))) (hk27 _ _ hL)
    · refine ev_aload_n (pc := 50) (i := 0) dX7_pass_50 rfl rfl ?_
      refine ev_dup (pc := 51) dX7_pass_51 (cat_aV _ _) ?_
      refine ev_get (pc := 52) (c9 := 7) (k9 := 9) dX7_pass_52 fl_St_40 (by decide) hs8 gv7_9 ?_
      refine ev_iconst (pc := 55) dX7_pass_55 ?_
      refine ev_iadd (pc := 56) dX7_pass_56 ?_
      refine evB_putI (pc := 57) (c9 := 7) (k9 := 9) (kI := 9) dX7_pass_57 fl_St_40 hs8 (by decide) (fun q hq => by cases hq; rfl) rfl rfl rfl ?_
      refine ev_puG hL (fun h12 hL => ?_)
      refine ev_aload_n (pc := 60) (i := 0) dX7_pass_60 rfl rfl ?_
      refine ev_iload_n (pc := 61) (i := 2) dX7_pass_61 rfl rfl ?_
      refine ev_iconst (pc := 62) dX7_pass_62 ?_
      obtain ⟨r13, h14, hc15, hL⟩ := cl_un hL
      refine evB_callV_V (pc := 63) (M_St_cheer hc15) dX7_pass_63 mt_St_cheer st_St_cheer ml_St_98 hs8 (by decide) ⟨_, rfl, rfl⟩ (Nat.le_of_ble_eq_true rfl) rfl rfl (Nat.le_trans sm_z (by decide)) ?_
      refine ev_iload_n (pc := 66) (i := 2) dX7_pass_66 rfl rfl ?_
      refine ev_iload_n (pc := 67) (i := 3) dX7_pass_67 rfl rfl ?_
      refine ev_icmp_ge (pc := 68) (tgt := 78) dX7_pass_68 rfl hL rfl (fun hL => ?_) (fun hL => ?_)
      · refine ev_aload_n (pc := 71) (i := 0) dX7_pass_71 rfl rfl ?_
        refine ev_iload_n (pc := 72) (i := 2) dX7_pass_72 rfl rfl ?_
        refine ev_iload_n (pc := 73) (i := 3) dX7_pass_73 rfl rfl ?_
        refine ev_iconst (pc := 74) dX7_pass_74 ?_
        obtain ⟨r16, h17, hc18, hL⟩ := cl_un hL
        refine evB_callV_V (pc := 75) (M_St_owe hc18) dX7_pass_75 mt_St_owe st_St_owe ml_St_102 hs8 (by decide) ⟨_, rfl, rfl⟩ (Nat.le_of_ble_eq_true rfl) rfl rfl (Nat.le_trans sm_z (by decide)) ?_
        refine ev_iinc (pc := 78) dX7_pass_78 rfl (lnl_n rfl) (Nat.le_of_ble_eq_true rfl) ?_
        refine ev_goto (pc := 81) (tgt := 27) dX7_pass_81 rfl ?_
        exact ev_le (lvle_s (lvle_n (lvle_s (lvle_n lvle_z)))) (hk27 _ _ hL)
      · refine ev_iinc (pc := 78) dX7_pass_78 rfl (lnl_n rfl) (Nat.le_of_ble_eq_true rfl) ?_
        refine ev_goto (pc := 81) (tgt := 27) dX7_pass_81 rfl ?_
        exact ev_le (lvle_s (lvle_n (lvle_s (lvle_n lvle_z)))) (hk27 _ _ hL)
  · refine ev_iconst (pc := 84) dX7_pass_84 ?_
    refine ev_istore_n (pc := 85) (i := 2) dX7_pass_85 rfl (lnl_n rfl) (Nat.le_of_ble_eq_true rfl) ?_
    exact ev_le (lvle_s (lvle_n (lvle_s (lvle_n lvle_z)))) (KSt_pass_b86  hL)
set_option maxHeartbeats 1000000 in
set_option maxRecDepth 100000 in
theorem KSt_pass_b27 {ω : Wd} {z : Nat → Prop}  {h h' : Hp} {x0 x2 r : Int}  (hL : St_pass_b27 h x0 x2 = some (r, h')) : EvB ω N_St_pass 5 (QB none z h') z h 27 [some (aV ω x0), none, some (iV x2), none] [] := by
  unfold St_pass_b27 at hL
  refine itr_link (P := fun (s : Hp × Int × Int) (o : Int × Hp) => EvB ω N_St_pass 5 (QB none z o.2) z s.1 27 [some (aV ω s.2.1), none, some (iV s.2.2), none] []) ?_ _ _ _ hL
  intro k hk s o h9
  have h10 := KSt_pass_b27_body (ω := ω) (z := z) (k27 := k) (h := s.1) (x0 := s.2.1) (x2 := s.2.2) (r := o.1) (h' := o.2) 
  exact h10 hk h9
set_option maxHeartbeats 1000000 in
set_option maxRecDepth 100000 in
theorem M_St_pass {ω : Wd} {z : Nat → Prop} {h h' : Hp} {a0 a1 r : Int}  (hL : St_pass h a0 a1 = some (r, h')) : CtB ω N_St_pass 5 [aV ω a0, iV a1] z h none h' := by
  unfold St_pass at hL
  refine Ct_of (lv := [some (aV ω a0), some (iV a1), none, none]) (by decide) (Nat.le_trans (sl_1 (cat_aV _ _) (sl_1 (cat_iV _) sl_z)) (Nat.le_of_ble_eq_true rfl)) (la_1 (cat_aV _ _) (la_1 (cat_iV _) (la_n (la_n la_z)))) ?_
  refine ev_aload_n (pc := 0) (i := 0) dX7_pass_0 rfl rfl ?_
  refine ev_iload_n (pc := 1) (i := 1) dX7_pass_1 rfl rfl ?_
  obtain ⟨hs1, hL⟩ := cC_un hL
  obtain ⟨r2, h3, hc4, hL⟩ := cl_un hL
  refine evB_callV_V (pc := 2) (M_St_book hc4) dX7_pass_2 mt_St_book st_St_book ml_St_95 hs1 (by decide) ⟨_, rfl, rfl⟩ (Nat.le_of_ble_eq_true rfl) rfl rfl (Nat.le_trans sm_z (by decide)) ?_
  refine ev_aload_n (pc := 5) (i := 0) dX7_pass_5 rfl rfl ?_
  refine ev_dup (pc := 6) dX7_pass_6 (cat_aV _ _) ?_
  refine ev_get (pc := 7) (c9 := 7) (k9 := 8) dX7_pass_7 fl_St_37 (by decide) hs1 gv7_8 ?_
  refine ev_iconst (pc := 10) dX7_pass_10 ?_
  refine ev_iadd (pc := 11) dX7_pass_11 ?_
  refine evB_putI (pc := 12) (c9 := 7) (k9 := 8) (kI := 8) dX7_pass_12 fl_St_37 hs1 (by decide) (fun q hq => by cases hq; rfl) rfl rfl rfl ?_
  refine ev_puG hL (fun h5 hL => ?_)
  refine ev_aload_n (pc := 15) (i := 0) dX7_pass_15 rfl rfl ?_
  refine ev_iconst (pc := 16) dX7_pass_16 ?_
  refine evB_putI (pc := 17) (c9 := 7) (k9 := 9) (kI := 9) dX7_pass_17 fl_St_40 hs1 (by decide) (fun q hq => by cases hq; rfl) rfl rfl rfl ?_
  refine ev_puG hL (fun h6 hL => ?_)
  refine ev_aload_n (pc := 20) (i := 0) dX7_pass_20 rfl rfl ?_
  refine ev_iconst (pc := 21) dX7_pass_21 ?_
  refine evB_putI (pc := 22) (c9 := 7) (k9 := 10) (kI := 10) dX7_pass_22 fl_St_43 hs1 (by decide) (fun q hq => by cases hq; rfl) rfl rfl rfl ?_
  refine ev_puG hL (fun h7 hL => ?_)
  refine ev_iconst (pc := 25) dX7_pass_25 ?_
  refine ev_istore_n (pc := 26) (i := 2) dX7_pass_26 rfl (lnl_v rfl rfl) (Nat.le_of_ble_eq_true rfl) ?_
  exact ev_le (lvle_s (lvle_n (lvle_s (lvle_n lvle_z)))) (KSt_pass_b27  hL)
set_option maxHeartbeats 1000000 in
set_option maxRecDepth 100000 in
theorem KCc_neverSitting_b30_body {ω : Wd} {z : Nat → Prop} {k16 : Hp × Int × Int × Int → Option (Int × Hp)} {k30 : Hp × Int × Int × Int × Int → Option (Int × Hp)} {h h' : Hp} {x1 x2 x3 x4 r : Int} (hk16 : ∀ s o, k16 s = some o → EvB ω N_Cc_neverSitting 6 (QB (some (iV o.1)) z o.2) z s.1 16 [none, some (aV ω s.2.1), some (iV s.2.2.1), some (iV s.2.2.2), none] []) (hk30 : ∀ s o, k30 s = some o → EvB ω N_Cc_neverSitting 6 (QB (some (iV o.1)) z o.2) z s.1 30 [none, some (aV ω s.2.1), some (iV s.2.2.1), some (iV s.2.2.2.1), some (iV s.2.2.2.2)] []) (hL : Cc_neverSitting_b30_body k16 k30 h x1 x2 x3 x4 = some (r, h')) : EvB ω N_Cc_neverSitting 6 (QB (some (iV r)) z h') z h 30 [none, some (aV ω x1), some (iV x2), some (iV x3), some (iV x4)] [] := by
  unfold Cc_neverSitting_b30_body at hL
  refine ev_iload (pc := 30) dX9_neverSitting_30 rfl ?_
  refine ev_aload_n (pc := 32) (i := 1) dX9_neverSitting_32 rfl rfl ?_
  obtain ⟨hs11, hL⟩ := cC_un hL
  refine ev_get (pc := 33) (c9 := 7) (k9 := 4) dX9_neverSitting_33 fl_Cc_282 (by decide) hs11 gv7_4 ?_
  refine ev_icmp_ge (pc := 36) (tgt := 68) dX9_neverSitting_36 rfl hL rfl (fun hL => ?_) (fun hL => ?_)
  · refine ev_aload_n (pc := 39) (i := 1) dX9_neverSitting_39 rfl rfl ?_
    refine ev_get (pc := 40) (c9 := 7) (k9 := 3) dX9_neverSitting_40 fl_Cc_279 (by decide) hs11 (gv7_3 hs11) ?_
    refine ev_iload (pc := 43) dX9_neverSitting_43 rfl ?_
    obtain ⟨r12, h13, hc14, hL⟩ := cl_un hL
    refine evB_callS_I (pc := 45) (M_Cc_at hc14) dX9_neverSitting_45 mt_Cc_at st_Cc_at ml_Cc_333 (Nat.le_of_ble_eq_true rfl) rfl rfl (Nat.le_trans sm_z (by decide)) ?_
    refine ev_bipush (pc := 48) dX9_neverSitting_48 (by decide) ?_
    refine ev_icmp_eq (pc := 50) (tgt := 62) dX9_neverSitting_50 rfl hL rfl (fun hL => ?_) (fun hL => ?_)
    · refine ev_iinc (pc := 62) dX9_neverSitting_62 rfl (lnl_v rfl rfl) (Nat.le_of_ble_eq_true rfl) ?_
      refine ev_goto (pc := 65) (tgt := 30) dX9_neverSitting_65 rfl ?_
      exact ev_le (lvle_n (lvle_s (lvle_s (lvle_s (lvle_s lvle_z))))) (hk30 _ _ hL)
    · refine ev_iload_n (pc := 53) (i := 2) dX9_neverSitting_53 rfl rfl ?_
      refine ev_iconst (pc := 54) dX9_neverSitting_54 ?_
      refine ev_iload (pc := 55) dX9_neverSitting_55 rfl ?_
      refine ev_ishl (pc := 57) dX9_neverSitting_57 ?_
      refine ev_iconst (pc := 58) dX9_neverSitting_58 ?_
      refine ev_ixor (pc := 59) dX9_neverSitting_59 ?_
      refine ev_iand (pc := 60) dX9_neverSitting_60 ?_
      refine ev_bdI hL (fun v15 hL => ?_)
      refine ev_istore_n (pc := 61) (i := 2) dX9_neverSitting_61 rfl (lnl_v (cat_aV _ _) rfl) (Nat.le_of_ble_eq_true rfl) ?_
      refine ev_iinc (pc := 62) dX9_neverSitting_62 rfl (lnl_v rfl rfl) (Nat.le_of_ble_eq_true rfl) ?_
      refine ev_goto (pc := 65) (tgt := 30) dX9_neverSitting_65 rfl ?_
      exact ev_le (lvle_n (lvle_s (lvle_s (lvle_s (lvle_s lvle_z))))) (hk30 _ _ hL)
  · refine ev_iinc (pc := 68) dX9_neverSitting_68 rfl (lnl_v rfl rfl) (Nat.le_of_ble_eq_true rfl) ?_
    refine ev_goto (pc := 71) (tgt := 16) dX9_neverSitting_71 rfl ?_
    exact ev_le (lvle_n (lvle_s (lvle_s (lvle_s (lvle_n lvle_z))))) (hk16 _ _ hL)
set_option maxHeartbeats 1000000 in
set_option maxRecDepth 100000 in
theorem KCc_neverSitting_b30 {ω : Wd} {z : Nat → Prop} {k16 : Hp × Int × Int × Int → Option (Int × Hp)} {h h' : Hp} {x1 x2 x3 x4 r : Int} (hk16 : ∀ s o, k16 s = some o → EvB ω N_Cc_neverSitting 6 (QB (some (iV o.1)) z o.2) z s.1 16 [none, some (aV ω s.2.1), some (iV s.2.2.1), some (iV s.2.2.2), none] []) (hL : Cc_neverSitting_b30 k16 h x1 x2 x3 x4 = some (r, h')) : EvB ω N_Cc_neverSitting 6 (QB (some (iV r)) z h') z h 30 [none, some (aV ω x1), some (iV x2), some (iV x3), some (iV x4)] [] := by
  unfold Cc_neverSitting_b30 at hL
  refine itr_link (P := fun (s : Hp × Int × Int × Int × Int) (o : Int × Hp) => EvB ω N_Cc_neverSitting 6 (QB (some (iV o.1)) z o.2) z s.1 30 [none, some (aV ω s.2.1), some (iV s.2.2.1), some (iV s.2.2.2.1), some (iV s.2.2.2.2)] []) ?_ _ _ _ hL
  intro k hk s o h9
  have h10 := KCc_neverSitting_b30_body (ω := ω) (z := z) (k16 := k16) (k30 := k) (h := s.1) (x1 := s.2.1) (x2 := s.2.2.1) (x3 := s.2.2.2.1) (x4 := s.2.2.2.2) (r := o.1) (h' := o.2) hk16
  exact h10 hk h9
set_option maxHeartbeats 1000000 in
set_option maxRecDepth 100000 in
theorem KCc_neverSitting_b16_body {ω : Wd} {z : Nat → Prop}  {k16 : Hp × Int × Int × Int → Option (Int × Hp)} {h h' : Hp} {x1 x2 x3 r : Int}  (hk16 : ∀ s o, k16 s = some o → EvB ω N_Cc_neverSitting 6 (QB (some (iV o.1)) z o.2) z s.1 16 [none, some (aV ω s.2.1), some (iV s.2.2.1), some (iV s.2.2.2), none] []) (hL : Cc_neverSitting_b16_body  k16 h x1 x2 x3 = some (r, h')) : EvB ω N_Cc_neverSitting 6 (QB (some (iV r)) z h') z h 16 [none, some (aV ω x1), some (iV x2), some (iV x3), none] [] := by
  unfold Cc_neverSitting_b16_body at hL
  refine ev_iload_n (pc := 16) (i := 3) dX9_neverSitting_16 rfl rfl ?_
  refine ev_bipush (pc := 17) dX9_neverSitting_17 (by decide) ?_
  refine ev_icmp_ge (pc := 19) (tgt := 74) dX9_neverSitting_19 rfl hL rfl (fun hL => ?_) (fun hL => ?_)
  · refine ev_aload_n (pc := 22) (i := 1) dX9_neverSitting_22 rfl rfl ?_
    refine ev_iconst (pc := 23) dX9_neverSitting_23 ?_
    obtain ⟨hs7, hL⟩ := cC_un hL
    obtain ⟨r8, h9, hc10, hL⟩ := cl_un hL
    refine evB_callV_V (pc := 24) (M_St_pass hc10) dX9_neverSitting_24 mt_St_pass st_St_pass ml_Cc_233 hs7 (by decide) ⟨_, rfl, rfl⟩ (Nat.le_of_ble_eq_true rfl) rfl rfl (Nat.le_trans sm_z (by decide)) ?_
    refine ev_iconst (pc := 27) dX9_neverSitting_27 ?_
    refine ev_istore (pc := 28) dX9_neverSitting_28 (lnl_v rfl rfl) (Nat.le_of_ble_eq_true rfl) ?_
    exact ev_le (lvle_n (lvle_s (lvle_s (lvle_s (lvle_s lvle_z))))) (KCc_neverSitting_b30 hk16 hL)
  · refine ev_iload_n (pc := 74) (i := 2) dX9_neverSitting_74 rfl rfl ?_
    exact evB_iret (pc := 75) dX9_neverSitting_75 rfl hL
set_option maxHeartbeats 1000000 in
set_option maxRecDepth 100000 in
theorem KCc_neverSitting_b16 {ω : Wd} {z : Nat → Prop}  {h h' : Hp} {x1 x2 x3 r : Int}  (hL : Cc_neverSitting_b16 h x1 x2 x3 = some (r, h')) : EvB ω N_Cc_neverSitting 6 (QB (some (iV r)) z h') z h 16 [none, some (aV ω x1), some (iV x2), some (iV x3), none] [] := by
  unfold Cc_neverSitting_b16 at hL
  refine itr_link (P := fun (s : Hp × Int × Int × Int) (o : Int × Hp) => EvB ω N_Cc_neverSitting 6 (QB (some (iV o.1)) z o.2) z s.1 16 [none, some (aV ω s.2.1), some (iV s.2.2.1), some (iV s.2.2.2), none] []) ?_ _ _ _ hL
  intro k hk s o h9
  have h10 := KCc_neverSitting_b16_body (ω := ω) (z := z) (k16 := k) (h := s.1) (x1 := s.2.1) (x2 := s.2.2.1) (x3 := s.2.2.2) (r := o.1) (h' := o.2) 
  exact h10 hk h9
set_option maxHeartbeats 1000000 in
set_option maxRecDepth 100000 in
theorem M_Cc_neverSitting {ω : Wd} {z : Nat → Prop} {h h' : Hp} {a0 r : Int}  (hL : Cc_neverSitting h a0 = some (r, h')) : CtB ω N_Cc_neverSitting 6 [aV ω a0] z h (some (iV r)) h' := by
  unfold Cc_neverSitting at hL
  refine Ct_of (lv := [some (aV ω a0), none, none, none, none]) (by decide) (Nat.le_trans (sl_1 (cat_aV _ _) sl_z) (Nat.le_of_ble_eq_true rfl)) (la_1 (cat_aV _ _) (la_n (la_n (la_n (la_n la_z))))) ?_
  refine ev_aload_n (pc := 0) (i := 0) dX9_neverSitting_0 rfl rfl ?_
  obtain ⟨hs1, hL⟩ := cC_un hL
  obtain ⟨r2, h3, hc4, hL⟩ := cl_un hL
  refine evB_callV_A (pc := 1) (M_Cc_copyApart hc4) dX9_neverSitting_1 mt_Cc_copyApart st_Cc_copyApart ml_Cc_272 hs1 (by decide) ⟨_, rfl, rfl⟩ (Nat.le_of_ble_eq_true rfl) rfl rfl (Nat.le_trans sm_z (by decide)) ?_
  refine ev_astore_n (pc := 4) (i := 1) (isA_aV _ _) dX9_neverSitting_4 rfl (lnl_v (cat_aV _ _) rfl) (Nat.le_of_ble_eq_true rfl) ?_
  refine ev_iconst (pc := 5) dX9_neverSitting_5 ?_
  refine ev_aload_n (pc := 6) (i := 1) dX9_neverSitting_6 rfl rfl ?_
  obtain ⟨hs5, hL⟩ := cC_un hL
  refine ev_get (pc := 7) (c9 := 7) (k9 := 4) dX9_neverSitting_7 fl_Cc_282 (by decide) hs5 gv7_4 ?_
  refine ev_ishl (pc := 10) dX9_neverSitting_10 ?_
  refine ev_iconst (pc := 11) dX9_neverSitting_11 ?_
  refine ev_isub (pc := 12) dX9_neverSitting_12 ?_
  refine ev_bdI hL (fun v6 hL => ?_)
  refine ev_istore_n (pc := 13) (i := 2) dX9_neverSitting_13 rfl (lnl_v (cat_aV _ _) rfl) (Nat.le_of_ble_eq_true rfl) ?_
  refine ev_iconst (pc := 14) dX9_neverSitting_14 ?_
  refine ev_istore_n (pc := 15) (i := 3) dX9_neverSitting_15 rfl (lnl_v rfl rfl) (Nat.le_of_ble_eq_true rfl) ?_
  exact ev_le (lvle_n (lvle_s (lvle_s (lvle_s (lvle_n lvle_z))))) (KCc_neverSitting_b16  hL)
set_option maxHeartbeats 1000000 in
set_option maxRecDepth 100000 in
theorem KCc_circleOf_b4_body {ω : Wd} {z : Nat → Prop}  {k4 : Hp × Int × Int × Int × Int → Option (Int × Hp)} {h h' : Hp} {x0 x1 x2 x3 r : Int}  (hk4 : ∀ s o, k4 s = some o → EvB ω N_Cc_circleOf 3 (QB (some (iV o.1)) z o.2) z s.1 4 [some (aV ω s.2.1), some (iV s.2.2.1), some (iV s.2.2.2.1), some (iV s.2.2.2.2)] []) (hL : Cc_circleOf_b4_body  k4 h x0 x1 x2 x3 = some (r, h')) : EvB ω N_Cc_circleOf 3 (QB (some (iV r)) z h') z h 4 [some (aV ω x0), some (iV x1), some (iV x2), some (iV x3)] [] := by
  unfold Cc_circleOf_b4_body at hL
  refine ev_iload_n (pc := 4) (i := 3) dX9_circleOf_4 rfl rfl ?_
  refine ev_aload_n (pc := 5) (i := 0) dX9_circleOf_5 rfl rfl ?_
  obtain ⟨hs1, hL⟩ := cC_un hL
  refine ev_get (pc := 6) (c9 := 9) (k9 := 10) dX9_circleOf_6 fl_Cc_58 (by decide) hs1 (gv9_10 hs1) ?_
  obtain ⟨hs2, hL⟩ := cC_un hL
  refine ev_get (pc := 9) (c9 := 7) (k9 := 4) dX9_circleOf_9 fl_Cc_282 (by decide) hs2 gv7_4 ?_
  refine ev_icmp_ge (pc := 12) (tgt := 39) dX9_circleOf_12 rfl hL rfl (fun hL => ?_) (fun hL => ?_)
  · refine ev_aload_n (pc := 15) (i := 0) dX9_circleOf_15 rfl rfl ?_
    refine ev_get (pc := 16) (c9 := 9) (k9 := 10) dX9_circleOf_16 fl_Cc_58 (by decide) hs1 (gv9_10 hs1) ?_
    refine ev_iload_n (pc := 19) (i := 1) dX9_circleOf_19 rfl rfl ?_
    refine ev_iload_n (pc := 20) (i := 3) dX9_circleOf_20 rfl rfl ?_
    obtain ⟨r3, h4, hc5, hL⟩ := cl_un hL
    refine evB_callV_I (pc := 21) (M_St_owes hc5) dX9_circleOf_21 mt_St_owes st_St_owes ml_Cc_184 hs2 (by decide) ⟨_, rfl, rfl⟩ (Nat.le_of_ble_eq_true rfl) rfl rfl (Nat.le_trans sm_z (by decide)) ?_
    refine ev_if_le (pc := 24) (tgt := 33) dX9_circleOf_24 rfl hL rfl (fun hL => ?_) (fun hL => ?_)
    · refine ev_iload_n (pc := 27) (i := 2) dX9_circleOf_27 rfl rfl ?_
      refine ev_iconst (pc := 28) dX9_circleOf_28 ?_
      refine ev_iload_n (pc := 29) (i := 3) dX9_circleOf_29 rfl rfl ?_
      refine ev_ishl (pc := 30) dX9_circleOf_30 ?_
      refine ev_ior (pc := 31) dX9_circleOf_31 ?_
      refine ev_bdI hL (fun v6 hL => ?_)
      refine ev_istore_n (pc := 32) (i := 2) dX9_circleOf_32 rfl (lnl_v rfl rfl) (Nat.le_of_ble_eq_true rfl) ?_
      refine ev_iinc (pc := 33) dX9_circleOf_33 rfl (lnl_v rfl rfl) (Nat.le_of_ble_eq_true rfl) ?_
      refine ev_goto (pc := 36) (tgt := 4) dX9_circleOf_36 rfl ?_
      exact ev_le (lvle_s (lvle_s (lvle_s (lvle_s lvle_z)))) (hk4 _ _ hL)
    · refine ev_iinc (pc := 33) dX9_circleOf_33 rfl (lnl_v rfl rfl) (Nat.le_of_ble_eq_true rfl) ?_
      refine ev_goto (pc := 36) (tgt := 4) dX9_circleOf_36 rfl ?_
      exact ev_le (lvle_s (lvle_s (lvle_s (lvle_s lvle_z)))) (hk4 _ _ hL)
  · refine ev_iload_n (pc := 39) (i := 2) dX9_circleOf_39 rfl rfl ?_
    exact evB_iret (pc := 40) dX9_circleOf_40 rfl hL
set_option maxHeartbeats 1000000 in
set_option maxRecDepth 100000 in
theorem KCc_circleOf_b4 {ω : Wd} {z : Nat → Prop}  {h h' : Hp} {x0 x1 x2 x3 r : Int}  (hL : Cc_circleOf_b4 h x0 x1 x2 x3 = some (r, h')) : EvB ω N_Cc_circleOf 3 (QB (some (iV r)) z h') z h 4 [some (aV ω x0), some (iV x1), some (iV x2), some (iV x3)] [] := by
  unfold Cc_circleOf_b4 at hL
  refine itr_link (P := fun (s : Hp × Int × Int × Int × Int) (o : Int × Hp) => EvB ω N_Cc_circleOf 3 (QB (some (iV o.1)) z o.2) z s.1 4 [some (aV ω s.2.1), some (iV s.2.2.1), some (iV s.2.2.2.1), some (iV s.2.2.2.2)] []) ?_ _ _ _ hL
  intro k hk s o h9
  have h10 := KCc_circleOf_b4_body (ω := ω) (z := z) (k4 := k) (h := s.1) (x0 := s.2.1) (x1 := s.2.2.1) (x2 := s.2.2.2.1) (x3 := s.2.2.2.2) (r := o.1) (h' := o.2) 
  exact h10 hk h9
set_option maxHeartbeats 1000000 in
set_option maxRecDepth 100000 in
theorem M_Cc_circleOf {ω : Wd} {z : Nat → Prop} {h h' : Hp} {a0 a1 r : Int}  (hL : Cc_circleOf h a0 a1 = some (r, h')) : CtB ω N_Cc_circleOf 3 [aV ω a0, iV a1] z h (some (iV r)) h' := by
  unfold Cc_circleOf at hL
  refine Ct_of (lv := [some (aV ω a0), some (iV a1), none, none]) (by decide) (Nat.le_trans (sl_1 (cat_aV _ _) (sl_1 (cat_iV _) sl_z)) (Nat.le_of_ble_eq_true rfl)) (la_1 (cat_aV _ _) (la_1 (cat_iV _) (la_n (la_n la_z)))) ?_
  refine ev_iconst (pc := 0) dX9_circleOf_0 ?_
  refine ev_istore_n (pc := 1) (i := 2) dX9_circleOf_1 rfl (lnl_v rfl rfl) (Nat.le_of_ble_eq_true rfl) ?_
  refine ev_iconst (pc := 2) dX9_circleOf_2 ?_
  refine ev_istore_n (pc := 3) (i := 3) dX9_circleOf_3 rfl (lnl_v rfl rfl) (Nat.le_of_ble_eq_true rfl) ?_
  exact ev_le (lvle_s (lvle_s (lvle_s (lvle_s lvle_z)))) (KCc_circleOf_b4  hL)
set_option maxHeartbeats 1000000 in
set_option maxRecDepth 100000 in
theorem M_Cc_holds {ω : Wd} {z : Nat → Prop} {h h' : Hp} {a0 a1 r : Int}  (hL : Cc_holds h a0 a1 = some (r, h')) : CtB ω N_Cc_holds 1 [iV a0, iV a1] z h (some (iV r)) h' := by
  unfold Cc_holds at hL
  refine Ct_of (lv := [some (iV a0), some (iV a1)]) (by decide) (Nat.le_trans (sl_1 (cat_iV _) (sl_1 (cat_iV _) sl_z)) (Nat.le_of_ble_eq_true rfl)) (la_1 (cat_iV _) (la_1 (cat_iV _) la_z)) ?_
  refine ev_iload_n (pc := 0) (i := 0) dX9_holds_0 rfl rfl ?_
  refine ev_iload_n (pc := 1) (i := 1) dX9_holds_1 rfl rfl ?_
  refine ev_ishr (pc := 2) dX9_holds_2 ?_
  refine ev_iconst (pc := 3) dX9_holds_3 ?_
  refine ev_iand (pc := 4) dX9_holds_4 ?_
  refine ev_iconst (pc := 5) dX9_holds_5 ?_
  refine ev_icmp_ne (pc := 6) (tgt := 13) dX9_holds_6 rfl hL rfl (fun hL => ?_) (fun hL => ?_)
  · refine ev_iconst (pc := 9) dX9_holds_9 ?_
    refine ev_goto (pc := 10) (tgt := 14) dX9_holds_10 rfl ?_
    exact evB_zret (pc := 14) dX9_holds_14 rfl rfl hL
  · refine ev_iconst (pc := 13) dX9_holds_13 ?_
    exact evB_zret (pc := 14) dX9_holds_14 rfl rfl hL
set_option maxHeartbeats 1000000 in
set_option maxRecDepth 100000 in
theorem KCc_isParty_b2_body {ω : Wd} {z : Nat → Prop}  {k2 : Hp × Int × Int × Int → Option (Int × Hp)} {h h' : Hp} {x0 x1 x2 r : Int}  (hk2 : ∀ s o, k2 s = some o → EvB ω N_Cc_isParty 4 (QB (some (iV o.1)) z o.2) z s.1 2 [some (aV ω s.2.1), some (iV s.2.2.1), some (iV s.2.2.2), none] []) (hL : Cc_isParty_b2_body  k2 h x0 x1 x2 = some (r, h')) : EvB ω N_Cc_isParty 4 (QB (some (iV r)) z h') z h 2 [some (aV ω x0), some (iV x1), some (iV x2), none] [] := by
  unfold Cc_isParty_b2_body at hL
  refine ev_iload_n (pc := 2) (i := 2) dX9_isParty_2 rfl rfl ?_
  refine ev_aload_n (pc := 3) (i := 0) dX9_isParty_3 rfl rfl ?_
  obtain ⟨hs1, hL⟩ := cC_un hL
  refine ev_get (pc := 4) (c9 := 9) (k9 := 10) dX9_isParty_4 fl_Cc_58 (by decide) hs1 (gv9_10 hs1) ?_
  obtain ⟨hs2, hL⟩ := cC_un hL
  refine ev_get (pc := 7) (c9 := 7) (k9 := 4) dX9_isParty_7 fl_Cc_282 (by decide) hs2 gv7_4 ?_
  refine ev_icmp_ge (pc := 10) (tgt := 48) dX9_isParty_10 rfl hL rfl (fun hL => ?_) (fun hL => ?_)
  · refine ev_iload_n (pc := 13) (i := 1) dX9_isParty_13 rfl rfl ?_
    refine ev_iconst (pc := 14) dX9_isParty_14 ?_
    refine ev_iload_n (pc := 15) (i := 2) dX9_isParty_15 rfl rfl ?_
    refine ev_ishl (pc := 16) dX9_isParty_16 ?_
    refine ev_iconst (pc := 17) dX9_isParty_17 ?_
    refine ev_ixor (pc := 18) dX9_isParty_18 ?_
    refine ev_iand (pc := 19) dX9_isParty_19 ?_
    refine ev_bdI hL (fun v3 hL => ?_)
    refine ev_istore_n (pc := 20) (i := 3) dX9_isParty_20 rfl (lnl_v rfl rfl) (Nat.le_of_ble_eq_true rfl) ?_
    refine ev_iload_n (pc := 21) (i := 1) dX9_isParty_21 rfl rfl ?_
    refine ev_iload_n (pc := 22) (i := 2) dX9_isParty_22 rfl rfl ?_
    obtain ⟨r4, h5, hc6, hL⟩ := cl_un hL
    refine evB_callS_I (pc := 23) (M_Cc_holds hc6) dX9_isParty_23 mt_Cc_holds st_Cc_holds ml_Cc_447 (Nat.le_of_ble_eq_true rfl) rfl rfl (Nat.le_trans sm_z (by decide)) ?_
    refine ev_if_eq (pc := 26) (tgt := 42) dX9_isParty_26 rfl hL rfl (fun hL => ?_) (fun hL => ?_)
    · refine ev_iinc (pc := 42) dX9_isParty_42 rfl (lnl_v rfl rfl) (Nat.le_of_ble_eq_true rfl) ?_
      refine ev_goto (pc := 45) (tgt := 2) dX9_isParty_45 rfl ?_
      exact ev_le (lvle_s (lvle_s (lvle_s (lvle_n lvle_z)))) (hk2 _ _ hL)
    · refine ev_aload_n (pc := 29) (i := 0) dX9_isParty_29 rfl rfl ?_
      refine ev_iload_n (pc := 30) (i := 2) dX9_isParty_30 rfl rfl ?_
      obtain ⟨r7, h8, hc9, hL⟩ := cl_un hL
      refine evB_callV_I (pc := 31) (M_Cc_circleOf hc9) dX9_isParty_31 mt_Cc_circleOf st_Cc_circleOf ml_Cc_380 hs1 (by decide) ⟨_, rfl, rfl⟩ (Nat.le_of_ble_eq_true rfl) rfl rfl (Nat.le_trans sm_z (by decide)) ?_
      refine ev_iload_n (pc := 34) (i := 3) dX9_isParty_34 rfl rfl ?_
      refine ev_iand (pc := 35) dX9_isParty_35 ?_
      refine ev_iload_n (pc := 36) (i := 3) dX9_isParty_36 rfl rfl ?_
      refine ev_icmp_eq (pc := 37) (tgt := 42) dX9_isParty_37 rfl hL rfl (fun hL => ?_) (fun hL => ?_)
      · refine ev_iinc (pc := 42) dX9_isParty_42 rfl (lnl_v rfl rfl) (Nat.le_of_ble_eq_true rfl) ?_
        refine ev_goto (pc := 45) (tgt := 2) dX9_isParty_45 rfl ?_
        exact ev_le (lvle_s (lvle_s (lvle_s (lvle_n lvle_z)))) (hk2 _ _ hL)
      · refine ev_iconst (pc := 40) dX9_isParty_40 ?_
        exact evB_zret (pc := 41) dX9_isParty_41 rfl rfl hL
  · refine ev_iconst (pc := 48) dX9_isParty_48 ?_
    exact evB_zret (pc := 49) dX9_isParty_49 rfl rfl hL
set_option maxHeartbeats 1000000 in
set_option maxRecDepth 100000 in
theorem KCc_isParty_b2 {ω : Wd} {z : Nat → Prop}  {h h' : Hp} {x0 x1 x2 r : Int}  (hL : Cc_isParty_b2 h x0 x1 x2 = some (r, h')) : EvB ω N_Cc_isParty 4 (QB (some (iV r)) z h') z h 2 [some (aV ω x0), some (iV x1), some (iV x2), none] [] := by
  unfold Cc_isParty_b2 at hL
  refine itr_link (P := fun (s : Hp × Int × Int × Int) (o : Int × Hp) => EvB ω N_Cc_isParty 4 (QB (some (iV o.1)) z o.2) z s.1 2 [some (aV ω s.2.1), some (iV s.2.2.1), some (iV s.2.2.2), none] []) ?_ _ _ _ hL
  intro k hk s o h9
  have h10 := KCc_isParty_b2_body (ω := ω) (z := z) (k2 := k) (h := s.1) (x0 := s.2.1) (x1 := s.2.2.1) (x2 := s.2.2.2) (r := o.1) (h' := o.2) 
  exact h10 hk h9
set_option maxHeartbeats 1000000 in
set_option maxRecDepth 100000 in
theorem M_Cc_isParty {ω : Wd} {z : Nat → Prop} {h h' : Hp} {a0 a1 r : Int}  (hL : Cc_isParty h a0 a1 = some (r, h')) : CtB ω N_Cc_isParty 4 [aV ω a0, iV a1] z h (some (iV r)) h' := by
  unfold Cc_isParty at hL
  refine Ct_of (lv := [some (aV ω a0), some (iV a1), none, none]) (by decide) (Nat.le_trans (sl_1 (cat_aV _ _) (sl_1 (cat_iV _) sl_z)) (Nat.le_of_ble_eq_true rfl)) (la_1 (cat_aV _ _) (la_1 (cat_iV _) (la_n (la_n la_z)))) ?_
  refine ev_iconst (pc := 0) dX9_isParty_0 ?_
  refine ev_istore_n (pc := 1) (i := 2) dX9_isParty_1 rfl (lnl_v rfl rfl) (Nat.le_of_ble_eq_true rfl) ?_
  exact ev_le (lvle_s (lvle_s (lvle_s (lvle_n lvle_z)))) (KCc_isParty_b2  hL)
set_option maxHeartbeats 1000000 in
set_option maxRecDepth 100000 in
theorem M_Ji_bitCount {ω : Wd} {z : Nat → Prop} {h h' : Hp} {a0 r : Int}  (hL : Ji_bitCount h a0 = some (r, h')) : CtB ω N_Ji_bitCount 1 [iV a0] z h (some (iV r)) h' := by
  unfold Ji_bitCount at hL
  refine Ct_of (lv := [some (iV a0)]) (by decide) (Nat.le_trans (sl_1 (cat_iV _) sl_z) (Nat.le_of_ble_eq_true rfl)) (la_1 (cat_iV _) la_z) ?_
  refine ev_iload_n (pc := 0) (i := 0) dJ6_bitCount_0f7a4_0 rfl rfl ?_
  refine ev_iload_n (pc := 1) (i := 0) dJ6_bitCount_0f7a4_1 rfl rfl ?_
  refine ev_iconst (pc := 2) dJ6_bitCount_0f7a4_2 ?_
  refine ev_iushr (pc := 3) dJ6_bitCount_0f7a4_3 ?_
  refine ev_ldc_w (pc := 4) (x := 1431655765) dJ6_bitCount_0f7a4_4 w_c_Ji_265 ?_
  refine ev_iand (pc := 7) dJ6_bitCount_0f7a4_7 ?_
  refine ev_isub (pc := 8) dJ6_bitCount_0f7a4_8 ?_
  refine ev_bdI hL (fun v1 hL => ?_)
  refine ev_istore_n (pc := 9) (i := 0) dJ6_bitCount_0f7a4_9 rfl lnl_0 (Nat.le_of_ble_eq_true rfl) ?_
  refine ev_iload_n (pc := 10) (i := 0) dJ6_bitCount_0f7a4_10 rfl rfl ?_
  refine ev_ldc_w (pc := 11) (x := 858993459) dJ6_bitCount_0f7a4_11 w_c_Ji_266 ?_
  refine ev_iand (pc := 14) dJ6_bitCount_0f7a4_14 ?_
  refine ev_iload_n (pc := 15) (i := 0) dJ6_bitCount_0f7a4_15 rfl rfl ?_
  refine ev_iconst (pc := 16) dJ6_bitCount_0f7a4_16 ?_
  refine ev_iushr (pc := 17) dJ6_bitCount_0f7a4_17 ?_
  refine ev_ldc_w (pc := 18) (x := 858993459) dJ6_bitCount_0f7a4_18 w_c_Ji_266 ?_
  refine ev_iand (pc := 21) dJ6_bitCount_0f7a4_21 ?_
  refine ev_iadd (pc := 22) dJ6_bitCount_0f7a4_22 ?_
  refine ev_bdI hL (fun v2 hL => ?_)
  refine ev_istore_n (pc := 23) (i := 0) dJ6_bitCount_0f7a4_23 rfl lnl_0 (Nat.le_of_ble_eq_true rfl) ?_
  refine ev_iload_n (pc := 24) (i := 0) dJ6_bitCount_0f7a4_24 rfl rfl ?_
  refine ev_iload_n (pc := 25) (i := 0) dJ6_bitCount_0f7a4_25 rfl rfl ?_
  refine ev_iconst (pc := 26) dJ6_bitCount_0f7a4_26 ?_
  refine ev_iushr (pc := 27) dJ6_bitCount_0f7a4_27 ?_
  refine ev_iadd (pc := 28) dJ6_bitCount_0f7a4_28 ?_
  refine ev_ldc_w (pc := 29) (x := 252645135) dJ6_bitCount_0f7a4_29 w_c_Ji_267 ?_
  refine ev_iand (pc := 32) dJ6_bitCount_0f7a4_32 ?_
  refine ev_bdI hL (fun v3 hL => ?_)
  refine ev_istore_n (pc := 33) (i := 0) dJ6_bitCount_0f7a4_33 rfl lnl_0 (Nat.le_of_ble_eq_true rfl) ?_
  refine ev_iload_n (pc := 34) (i := 0) dJ6_bitCount_0f7a4_34 rfl rfl ?_
  refine ev_iload_n (pc := 35) (i := 0) dJ6_bitCount_0f7a4_35 rfl rfl ?_
  refine ev_bipush (pc := 36) dJ6_bitCount_0f7a4_36 (by decide) ?_
  refine ev_iushr (pc := 38) dJ6_bitCount_0f7a4_38 ?_
  refine ev_iadd (pc := 39) dJ6_bitCount_0f7a4_39 ?_
  refine ev_bdI hL (fun v4 hL => ?_)
  refine ev_istore_n (pc := 40) (i := 0) dJ6_bitCount_0f7a4_40 rfl lnl_0 (Nat.le_of_ble_eq_true rfl) ?_
  refine ev_le (lw := [some (iV v4)]) (lvle_s lvle_z) ?_
  refine ev_iload_n (pc := 41) (i := 0) dJ6_bitCount_0f7a4_41 rfl rfl ?_
  refine ev_iload_n (pc := 42) (i := 0) dJ6_bitCount_0f7a4_42 rfl rfl ?_
  refine ev_bipush (pc := 43) dJ6_bitCount_0f7a4_43 (by decide) ?_
  refine ev_iushr (pc := 45) dJ6_bitCount_0f7a4_45 ?_
  refine ev_iadd (pc := 46) dJ6_bitCount_0f7a4_46 ?_
  refine ev_bdI hL (fun v5 hL => ?_)
  refine ev_istore_n (pc := 47) (i := 0) dJ6_bitCount_0f7a4_47 rfl lnl_0 (Nat.le_of_ble_eq_true rfl) ?_
  refine ev_iload_n (pc := 48) (i := 0) dJ6_bitCount_0f7a4_48 rfl rfl ?_
  refine ev_bipush (pc := 49) dJ6_bitCount_0f7a4_49 (by decide) ?_
  refine ev_iand (pc := 51) dJ6_bitCount_0f7a4_51 ?_
  exact evB_iret (pc := 52) dJ6_bitCount_0f7a4_52 rfl hL
set_option maxHeartbeats 1000000 in
set_option maxRecDepth 100000 in
theorem KCc_party_b4_body {ω : Wd} {z : Nat → Prop}  {k4 : Hp × Int × Int × Int → Option (Int × Hp)} {h h' : Hp} {x0 x1 x2 r : Int}  (hk4 : ∀ s o, k4 s = some o → EvB ω N_Cc_party 5 (QB (some (iV o.1)) z o.2) z s.1 4 [some (aV ω s.2.1), some (iV s.2.2.1), some (iV s.2.2.2)] []) (hL : Cc_party_b4_body  k4 h x0 x1 x2 = some (r, h')) : EvB ω N_Cc_party 5 (QB (some (iV r)) z h') z h 4 [some (aV ω x0), some (iV x1), some (iV x2)] [] := by
  unfold Cc_party_b4_body at hL
  refine ev_iload_n (pc := 4) (i := 2) dX9_party_4 rfl rfl ?_
  refine ev_iconst (pc := 5) dX9_party_5 ?_
  refine ev_aload_n (pc := 6) (i := 0) dX9_party_6 rfl rfl ?_
  obtain ⟨hs1, hL⟩ := cC_un hL
  refine ev_get (pc := 7) (c9 := 9) (k9 := 10) dX9_party_7 fl_Cc_58 (by decide) hs1 (gv9_10 hs1) ?_
  obtain ⟨hs2, hL⟩ := cC_un hL
  refine ev_get (pc := 10) (c9 := 7) (k9 := 4) dX9_party_10 fl_Cc_282 (by decide) hs2 gv7_4 ?_
  refine ev_ishl (pc := 13) dX9_party_13 ?_
  refine ev_icmp_ge (pc := 14) (tgt := 40) dX9_party_14 rfl hL rfl (fun hL => ?_) (fun hL => ?_)
  · refine ev_aload_n (pc := 17) (i := 0) dX9_party_17 rfl rfl ?_
    refine ev_iload_n (pc := 18) (i := 2) dX9_party_18 rfl rfl ?_
    obtain ⟨r3, h4, hc5, hL⟩ := cl_un hL
    refine evB_callV_I (pc := 19) (M_Cc_isParty hc5) dX9_party_19 mt_Cc_isParty st_Cc_isParty ml_Cc_453 hs1 (by decide) ⟨_, rfl, rfl⟩ (Nat.le_of_ble_eq_true rfl) rfl rfl (Nat.le_trans sm_z (by decide)) ?_
    refine ev_if_eq (pc := 22) (tgt := 34) dX9_party_22 rfl hL rfl (fun hL => ?_) (fun hL => ?_)
    · refine ev_iinc (pc := 34) dX9_party_34 rfl (lnl_v rfl rfl) (Nat.le_of_ble_eq_true rfl) ?_
      refine ev_goto (pc := 37) (tgt := 4) dX9_party_37 rfl ?_
      exact ev_le (lvle_s (lvle_s (lvle_s lvle_z))) (hk4 _ _ hL)
    · refine ev_iload_n (pc := 25) (i := 1) dX9_party_25 rfl rfl ?_
      refine ev_iload_n (pc := 26) (i := 2) dX9_party_26 rfl rfl ?_
      obtain ⟨r6, h7, hc8, hL⟩ := cl_un hL
      refine evB_callS_I (pc := 27) (M_Ji_bitCount hc8) dX9_party_27 mt_Ji_bitCount st_Ji_bitCount ml_Cc_297 (Nat.le_of_ble_eq_true rfl) rfl rfl (Nat.le_trans (sm_1 (cat_iV _) sm_z) (by decide)) ?_
      refine ev_max (pc := 30) dX9_party_30 wm_Cc_292 w_s_max w_i_Math w_k_max (Nat.le_trans sm_z (by decide)) (Nat.le_of_ble_eq_true rfl) (Nat.le_refl _) (Nat.le_refl _) ?_
      refine ev_bdI hL (fun v9 hL => ?_)
      refine ev_istore_n (pc := 33) (i := 1) dX9_party_33 rfl (lnl_v (cat_aV _ _) rfl) (Nat.le_of_ble_eq_true rfl) ?_
      refine ev_iinc (pc := 34) dX9_party_34 rfl (lnl_v rfl rfl) (Nat.le_of_ble_eq_true rfl) ?_
      refine ev_goto (pc := 37) (tgt := 4) dX9_party_37 rfl ?_
      exact ev_le (lvle_s (lvle_s (lvle_s lvle_z))) (hk4 _ _ hL)
  · refine ev_iload_n (pc := 40) (i := 1) dX9_party_40 rfl rfl ?_
    exact evB_iret (pc := 41) dX9_party_41 rfl hL
set_option maxHeartbeats 1000000 in
set_option maxRecDepth 100000 in
theorem KCc_party_b4 {ω : Wd} {z : Nat → Prop}  {h h' : Hp} {x0 x1 x2 r : Int}  (hL : Cc_party_b4 h x0 x1 x2 = some (r, h')) : EvB ω N_Cc_party 5 (QB (some (iV r)) z h') z h 4 [some (aV ω x0), some (iV x1), some (iV x2)] [] := by
  unfold Cc_party_b4 at hL
  refine itr_link (P := fun (s : Hp × Int × Int × Int) (o : Int × Hp) => EvB ω N_Cc_party 5 (QB (some (iV o.1)) z o.2) z s.1 4 [some (aV ω s.2.1), some (iV s.2.2.1), some (iV s.2.2.2)] []) ?_ _ _ _ hL
  intro k hk s o h9
  have h10 := KCc_party_b4_body (ω := ω) (z := z) (k4 := k) (h := s.1) (x0 := s.2.1) (x1 := s.2.2.1) (x2 := s.2.2.2) (r := o.1) (h' := o.2) 
  exact h10 hk h9
set_option maxHeartbeats 1000000 in
set_option maxRecDepth 100000 in
theorem M_Cc_party {ω : Wd} {z : Nat → Prop} {h h' : Hp} {a0 r : Int}  (hL : Cc_party h a0 = some (r, h')) : CtB ω N_Cc_party 5 [aV ω a0] z h (some (iV r)) h' := by
  unfold Cc_party at hL
  refine Ct_of (lv := [some (aV ω a0), none, none]) (by decide) (Nat.le_trans (sl_1 (cat_aV _ _) sl_z) (Nat.le_of_ble_eq_true rfl)) (la_1 (cat_aV _ _) (la_n (la_n la_z))) ?_
  refine ev_iconst (pc := 0) dX9_party_0 ?_
  refine ev_istore_n (pc := 1) (i := 1) dX9_party_1 rfl (lnl_v (cat_aV _ _) rfl) (Nat.le_of_ble_eq_true rfl) ?_
  refine ev_iconst (pc := 2) dX9_party_2 ?_
  refine ev_istore_n (pc := 3) (i := 2) dX9_party_3 rfl (lnl_v rfl rfl) (Nat.le_of_ble_eq_true rfl) ?_
  exact ev_le (lvle_s (lvle_s (lvle_s lvle_z))) (KCc_party_b4  hL)
set_option maxHeartbeats 1000000 in
set_option maxRecDepth 100000 in
theorem KSt_debtWithin_b17_body {ω : Wd} {z : Nat → Prop} {k4 : Hp × Int × Int × Int × Int → Option (Int × Hp)} {k17 : Hp × Int × Int × Int × Int × Int → Option (Int × Hp)} {h h' : Hp} {x0 x1 x2 x3 x4 r : Int} (hk4 : ∀ s o, k4 s = some o → EvB ω N_St_debtWithin 3 (QB (some (iV o.1)) z o.2) z s.1 4 [some (aV ω s.2.1), some (iV s.2.2.1), some (iV s.2.2.2.1), some (iV s.2.2.2.2), none] []) (hk17 : ∀ s o, k17 s = some o → EvB ω N_St_debtWithin 3 (QB (some (iV o.1)) z o.2) z s.1 17 [some (aV ω s.2.1), some (iV s.2.2.1), some (iV s.2.2.2.1), some (iV s.2.2.2.2.1), some (iV s.2.2.2.2.2)] []) (hL : St_debtWithin_b17_body k4 k17 h x0 x1 x2 x3 x4 = some (r, h')) : EvB ω N_St_debtWithin 3 (QB (some (iV r)) z h') z h 17 [some (aV ω x0), some (iV x1), some (iV x2), some (iV x3), some (iV x4)] [] := by
  unfold St_debtWithin_b17_body at hL
  refine ev_iload (pc := 17) dX7_debtWithin_17 rfl ?_
  refine ev_aload_n (pc := 19) (i := 0) dX7_debtWithin_19 rfl rfl ?_
  obtain ⟨hs3, hL⟩ := cC_un hL
  refine ev_get (pc := 20) (c9 := 7) (k9 := 4) dX7_debtWithin_20 fl_St_24 (by decide) hs3 gv7_4 ?_
  refine ev_icmp_ge (pc := 23) (tgt := 59) dX7_debtWithin_23 rfl hL rfl (fun hL => ?_) (fun hL => ?_)
  · refine ev_iload_n (pc := 26) (i := 1) dX7_debtWithin_26 rfl rfl ?_
    refine ev_iload_n (pc := 27) (i := 3) dX7_debtWithin_27 rfl rfl ?_
    obtain ⟨r4, h5, hc6, hL⟩ := cl_un hL
    refine evB_callS_I (pc := 28) (M_Cc_holds hc6) dX7_debtWithin_28 mt_Cc_holds st_Cc_holds ml_St_68 (Nat.le_of_ble_eq_true rfl) rfl rfl (Nat.le_trans sm_z (by decide)) ?_
    refine ev_if_eq (pc := 31) (tgt := 53) dX7_debtWithin_31 rfl hL rfl (fun hL => ?_) (fun hL => ?_)
    · refine ev_iinc (pc := 53) dX7_debtWithin_53 rfl (lnl_v rfl rfl) (Nat.le_of_ble_eq_true rfl) ?_
      refine ev_goto (pc := 56) (tgt := 17) dX7_debtWithin_56 rfl ?_
      exact ev_le (lvle_s (lvle_s (lvle_s (lvle_s (lvle_s lvle_z))))) (hk17 _ _ hL)
    · refine ev_iload_n (pc := 34) (i := 1) dX7_debtWithin_34 rfl rfl ?_
      refine ev_iload (pc := 35) dX7_debtWithin_35 rfl ?_
      obtain ⟨r7, h8, hc9, hL⟩ := cl_un hL
      refine evB_callS_I (pc := 37) (M_Cc_holds hc9) dX7_debtWithin_37 mt_Cc_holds st_Cc_holds ml_St_68 (Nat.le_of_ble_eq_true rfl) rfl rfl (Nat.le_trans sm_z (by decide)) ?_
      refine ev_if_eq (pc := 40) (tgt := 53) dX7_debtWithin_40 rfl hL rfl (fun hL => ?_) (fun hL => ?_)
      · refine ev_iinc (pc := 53) dX7_debtWithin_53 rfl (lnl_v rfl rfl) (Nat.le_of_ble_eq_true rfl) ?_
        refine ev_goto (pc := 56) (tgt := 17) dX7_debtWithin_56 rfl ?_
        exact ev_le (lvle_s (lvle_s (lvle_s (lvle_s (lvle_s lvle_z))))) (hk17 _ _ hL)
      · refine ev_iload_n (pc := 43) (i := 2) dX7_debtWithin_43 rfl rfl ?_
        refine ev_aload_n (pc := 44) (i := 0) dX7_debtWithin_44 rfl rfl ?_
        refine ev_iload_n (pc := 45) (i := 3) dX7_debtWithin_45 rfl rfl ?_
        refine ev_iload (pc := 46) dX7_debtWithin_46 rfl ?_
        obtain ⟨r10, h11, hc12, hL⟩ := cl_un hL
        refine evB_callV_I (pc := 48) (M_St_owes hc12) dX7_debtWithin_48 mt_St_owes st_St_owes ml_St_79 hs3 (by decide) ⟨_, rfl, rfl⟩ (Nat.le_of_ble_eq_true rfl) rfl rfl (Nat.le_trans (sm_1 (cat_iV _) sm_z) (by decide)) ?_
        refine ev_iadd (pc := 51) dX7_debtWithin_51 ?_
        refine ev_bdI hL (fun v13 hL => ?_)
        refine ev_istore_n (pc := 52) (i := 2) dX7_debtWithin_52 rfl (lnl_v rfl rfl) (Nat.le_of_ble_eq_true rfl) ?_
        refine ev_iinc (pc := 53) dX7_debtWithin_53 rfl (lnl_v rfl rfl) (Nat.le_of_ble_eq_true rfl) ?_
        refine ev_goto (pc := 56) (tgt := 17) dX7_debtWithin_56 rfl ?_
        exact ev_le (lvle_s (lvle_s (lvle_s (lvle_s (lvle_s lvle_z))))) (hk17 _ _ hL)
  · refine ev_iinc (pc := 59) dX7_debtWithin_59 rfl (lnl_v rfl rfl) (Nat.le_of_ble_eq_true rfl) ?_
    refine ev_goto (pc := 62) (tgt := 4) dX7_debtWithin_62 rfl ?_
    exact ev_le (lvle_s (lvle_s (lvle_s (lvle_s (lvle_n lvle_z))))) (hk4 _ _ hL)
set_option maxHeartbeats 1000000 in
set_option maxRecDepth 100000 in
theorem KSt_debtWithin_b17 {ω : Wd} {z : Nat → Prop} {k4 : Hp × Int × Int × Int × Int → Option (Int × Hp)} {h h' : Hp} {x0 x1 x2 x3 x4 r : Int} (hk4 : ∀ s o, k4 s = some o → EvB ω N_St_debtWithin 3 (QB (some (iV o.1)) z o.2) z s.1 4 [some (aV ω s.2.1), some (iV s.2.2.1), some (iV s.2.2.2.1), some (iV s.2.2.2.2), none] []) (hL : St_debtWithin_b17 k4 h x0 x1 x2 x3 x4 = some (r, h')) : EvB ω N_St_debtWithin 3 (QB (some (iV r)) z h') z h 17 [some (aV ω x0), some (iV x1), some (iV x2), some (iV x3), some (iV x4)] [] := by
  unfold St_debtWithin_b17 at hL
  refine itr_link (P := fun (s : Hp × Int × Int × Int × Int × Int) (o : Int × Hp) => EvB ω N_St_debtWithin 3 (QB (some (iV o.1)) z o.2) z s.1 17 [some (aV ω s.2.1), some (iV s.2.2.1), some (iV s.2.2.2.1), some (iV s.2.2.2.2.1), some (iV s.2.2.2.2.2)] []) ?_ _ _ _ hL
  intro k hk s o h9
  have h10 := KSt_debtWithin_b17_body (ω := ω) (z := z) (k4 := k4) (k17 := k) (h := s.1) (x0 := s.2.1) (x1 := s.2.2.1) (x2 := s.2.2.2.1) (x3 := s.2.2.2.2.1) (x4 := s.2.2.2.2.2) (r := o.1) (h' := o.2) hk4
  exact h10 hk h9
set_option maxHeartbeats 1000000 in
set_option maxRecDepth 100000 in
theorem KSt_debtWithin_b4_body {ω : Wd} {z : Nat → Prop}  {k4 : Hp × Int × Int × Int × Int → Option (Int × Hp)} {h h' : Hp} {x0 x1 x2 x3 r : Int}  (hk4 : ∀ s o, k4 s = some o → EvB ω N_St_debtWithin 3 (QB (some (iV o.1)) z o.2) z s.1 4 [some (aV ω s.2.1), some (iV s.2.2.1), some (iV s.2.2.2.1), some (iV s.2.2.2.2), none] []) (hL : St_debtWithin_b4_body  k4 h x0 x1 x2 x3 = some (r, h')) : EvB ω N_St_debtWithin 3 (QB (some (iV r)) z h') z h 4 [some (aV ω x0), some (iV x1), some (iV x2), some (iV x3), none] [] := by
  unfold St_debtWithin_b4_body at hL
  refine ev_iload_n (pc := 4) (i := 3) dX7_debtWithin_4 rfl rfl ?_
  refine ev_aload_n (pc := 5) (i := 0) dX7_debtWithin_5 rfl rfl ?_
  obtain ⟨hs1, hL⟩ := cC_un hL
  refine ev_get (pc := 6) (c9 := 7) (k9 := 4) dX7_debtWithin_6 fl_St_24 (by decide) hs1 gv7_4 ?_
  refine ev_icmp_ge (pc := 9) (tgt := 65) dX7_debtWithin_9 rfl hL rfl (fun hL => ?_) (fun hL => ?_)
  · refine ev_iload_n (pc := 12) (i := 3) dX7_debtWithin_12 rfl rfl ?_
    refine ev_iconst (pc := 13) dX7_debtWithin_13 ?_
    refine ev_iadd (pc := 14) dX7_debtWithin_14 ?_
    refine ev_bdI hL (fun v2 hL => ?_)
    refine ev_istore (pc := 15) dX7_debtWithin_15 (lnl_v rfl rfl) (Nat.le_of_ble_eq_true rfl) ?_
    exact ev_le (lvle_s (lvle_s (lvle_s (lvle_s (lvle_s lvle_z))))) (KSt_debtWithin_b17 hk4 hL)
  · refine ev_iload_n (pc := 65) (i := 2) dX7_debtWithin_65 rfl rfl ?_
    exact evB_iret (pc := 66) dX7_debtWithin_66 rfl hL
set_option maxHeartbeats 1000000 in
set_option maxRecDepth 100000 in
theorem KSt_debtWithin_b4 {ω : Wd} {z : Nat → Prop}  {h h' : Hp} {x0 x1 x2 x3 r : Int}  (hL : St_debtWithin_b4 h x0 x1 x2 x3 = some (r, h')) : EvB ω N_St_debtWithin 3 (QB (some (iV r)) z h') z h 4 [some (aV ω x0), some (iV x1), some (iV x2), some (iV x3), none] [] := by
  unfold St_debtWithin_b4 at hL
  refine itr_link (P := fun (s : Hp × Int × Int × Int × Int) (o : Int × Hp) => EvB ω N_St_debtWithin 3 (QB (some (iV o.1)) z o.2) z s.1 4 [some (aV ω s.2.1), some (iV s.2.2.1), some (iV s.2.2.2.1), some (iV s.2.2.2.2), none] []) ?_ _ _ _ hL
  intro k hk s o h9
  have h10 := KSt_debtWithin_b4_body (ω := ω) (z := z) (k4 := k) (h := s.1) (x0 := s.2.1) (x1 := s.2.2.1) (x2 := s.2.2.2.1) (x3 := s.2.2.2.2) (r := o.1) (h' := o.2) 
  exact h10 hk h9
set_option maxHeartbeats 1000000 in
set_option maxRecDepth 100000 in
theorem M_St_debtWithin {ω : Wd} {z : Nat → Prop} {h h' : Hp} {a0 a1 r : Int}  (hL : St_debtWithin h a0 a1 = some (r, h')) : CtB ω N_St_debtWithin 3 [aV ω a0, iV a1] z h (some (iV r)) h' := by
  unfold St_debtWithin at hL
  refine Ct_of (lv := [some (aV ω a0), some (iV a1), none, none, none]) (by decide) (Nat.le_trans (sl_1 (cat_aV _ _) (sl_1 (cat_iV _) sl_z)) (Nat.le_of_ble_eq_true rfl)) (la_1 (cat_aV _ _) (la_1 (cat_iV _) (la_n (la_n (la_n la_z))))) ?_
  refine ev_iconst (pc := 0) dX7_debtWithin_0 ?_
  refine ev_istore_n (pc := 1) (i := 2) dX7_debtWithin_1 rfl (lnl_v rfl rfl) (Nat.le_of_ble_eq_true rfl) ?_
  refine ev_iconst (pc := 2) dX7_debtWithin_2 ?_
  refine ev_istore_n (pc := 3) (i := 3) dX7_debtWithin_3 rfl (lnl_v rfl rfl) (Nat.le_of_ble_eq_true rfl) ?_
  exact ev_le (lvle_s (lvle_s (lvle_s (lvle_s (lvle_n lvle_z))))) (KSt_debtWithin_b4  hL)
set_option maxHeartbeats 1000000 in
set_option maxRecDepth 100000 in
theorem M_St_allDebt {ω : Wd} {z : Nat → Prop} {h h' : Hp} {a0 r : Int}  (hL : St_allDebt h a0 = some (r, h')) : CtB ω N_St_allDebt 4 [aV ω a0] z h (some (iV r)) h' := by
  unfold St_allDebt at hL
  refine Ct_of (lv := [some (aV ω a0)]) (by decide) (Nat.le_trans (sl_1 (cat_aV _ _) sl_z) (Nat.le_of_ble_eq_true rfl)) (la_1 (cat_aV _ _) la_z) ?_
  refine ev_aload_n (pc := 0) (i := 0) dX7_allDebt_0 rfl rfl ?_
  refine ev_iconst (pc := 1) dX7_allDebt_1 ?_
  refine ev_aload_n (pc := 2) (i := 0) dX7_allDebt_2 rfl rfl ?_
  obtain ⟨hs1, hL⟩ := cC_un hL
  refine ev_get (pc := 3) (c9 := 7) (k9 := 4) dX7_allDebt_3 fl_St_24 (by decide) hs1 gv7_4 ?_
  refine ev_ishl (pc := 6) dX7_allDebt_6 ?_
  refine ev_iconst (pc := 7) dX7_allDebt_7 ?_
  refine ev_isub (pc := 8) dX7_allDebt_8 ?_
  obtain ⟨r2, h3, hc4, hL⟩ := cl_un hL
  refine evB_callV_I (pc := 9) (M_St_debtWithin hc4) dX7_allDebt_9 mt_St_debtWithin st_St_debtWithin ml_St_85 hs1 (by decide) ⟨_, rfl, rfl⟩ (Nat.le_of_ble_eq_true rfl) rfl rfl (Nat.le_trans sm_z (by decide)) ?_
  exact evB_iret (pc := 12) dX7_allDebt_12 rfl hL
set_option maxHeartbeats 1000000 in
set_option maxRecDepth 100000 in
theorem M_Cc_all {ω : Wd} {z : Nat → Prop} {h h' : Hp} {a0 a1 r : Int}  (hL : Cc_all h a0 a1 = some (r, h')) : CtB ω N_Cc_all 7 [aV ω a0, iV a1] z h (some (iV r)) h' := by
  unfold Cc_all at hL
  refine Ct_of (lv := [some (aV ω a0), some (iV a1)]) (by decide) (Nat.le_trans (sl_1 (cat_aV _ _) (sl_1 (cat_iV _) sl_z)) (Nat.le_of_ble_eq_true rfl)) (la_1 (cat_aV _ _) (la_1 (cat_iV _) la_z)) ?_
  refine ev_aload_n (pc := 0) (i := 0) dX9_all_0 rfl rfl ?_
  obtain ⟨hs1, hL⟩ := cC_un hL
  obtain ⟨r2, h3, hc4, hL⟩ := cl_un hL
  refine evB_callV_I (pc := 1) (M_Cc_isTold hc4) dX9_all_1 mt_Cc_isTold st_Cc_isTold ml_Cc_223 hs1 (by decide) ⟨_, rfl, rfl⟩ (Nat.le_of_ble_eq_true rfl) rfl rfl (Nat.le_trans sm_z (by decide)) ?_
  refine ev_if_ne (pc := 4) (tgt := 9) dX9_all_4 rfl hL rfl (fun hL => ?_) (fun hL => ?_)
  · refine ev_iconst (pc := 7) dX9_all_7 ?_
    exact evB_iret (pc := 8) dX9_all_8 rfl hL
  · refine ev_iload_n (pc := 9) (i := 1) dX9_all_9 rfl rfl ?_
    rcases ite_un hL with ⟨hx, hL⟩ | ⟨hx8, hL⟩
    · refine evB_tswIn (pc := 10) (tgt := 64) dX9_all_10 hx (by decide) (by decide) rfl rfl ?_
      refine ev_aload_n (pc := 64) (i := 0) dX9_all_64 rfl rfl ?_
      refine ev_iload_n (pc := 65) (i := 1) dX9_all_65 rfl rfl ?_
      obtain ⟨r5, h6, hc7, hL⟩ := cl_un hL
      refine evB_callV_I (pc := 66) (M_Cc_foremost hc7) dX9_all_66 mt_Cc_foremost st_Cc_foremost ml_Cc_356 hs1 (by decide) ⟨_, rfl, rfl⟩ (Nat.le_of_ble_eq_true rfl) rfl rfl (Nat.le_trans sm_z (by decide)) ?_
      exact evB_iret (pc := 69) dX9_all_69 rfl hL
    · rcases ite_un hL with ⟨hx, hL⟩ | ⟨hx12, hL⟩
      · refine evB_tswIn (pc := 10) (tgt := 64) dX9_all_10 hx (by decide) (by decide) rfl rfl ?_
        refine ev_aload_n (pc := 64) (i := 0) dX9_all_64 rfl rfl ?_
        refine ev_iload_n (pc := 65) (i := 1) dX9_all_65 rfl rfl ?_
        obtain ⟨r9, h10, hc11, hL⟩ := cl_un hL
        refine evB_callV_I (pc := 66) (M_Cc_foremost hc11) dX9_all_66 mt_Cc_foremost st_Cc_foremost ml_Cc_356 hs1 (by decide) ⟨_, rfl, rfl⟩ (Nat.le_of_ble_eq_true rfl) rfl rfl (Nat.le_trans sm_z (by decide)) ?_
        exact evB_iret (pc := 69) dX9_all_69 rfl hL
      · rcases ite_un hL with ⟨hx, hL⟩ | ⟨hx16, hL⟩
        · refine evB_tswIn (pc := 10) (tgt := 64) dX9_all_10 hx (by decide) (by decide) rfl rfl ?_
          refine ev_aload_n (pc := 64) (i := 0) dX9_all_64 rfl rfl ?_
          refine ev_iload_n (pc := 65) (i := 1) dX9_all_65 rfl rfl ?_
          obtain ⟨r13, h14, hc15, hL⟩ := cl_un hL
          refine evB_callV_I (pc := 66) (M_Cc_foremost hc15) dX9_all_66 mt_Cc_foremost st_Cc_foremost ml_Cc_356 hs1 (by decide) ⟨_, rfl, rfl⟩ (Nat.le_of_ble_eq_true rfl) rfl rfl (Nat.le_trans sm_z (by decide)) ?_
          exact evB_iret (pc := 69) dX9_all_69 rfl hL
        · rcases ite_un hL with ⟨hx, hL⟩ | ⟨hx20, hL⟩
          · refine evB_tswIn (pc := 10) (tgt := 64) dX9_all_10 hx (by decide) (by decide) rfl rfl ?_
            refine ev_aload_n (pc := 64) (i := 0) dX9_all_64 rfl rfl ?_
            refine ev_iload_n (pc := 65) (i := 1) dX9_all_65 rfl rfl ?_
            obtain ⟨r17, h18, hc19, hL⟩ := cl_un hL
            refine evB_callV_I (pc := 66) (M_Cc_foremost hc19) dX9_all_66 mt_Cc_foremost st_Cc_foremost ml_Cc_356 hs1 (by decide) ⟨_, rfl, rfl⟩ (Nat.le_of_ble_eq_true rfl) rfl rfl (Nat.le_trans sm_z (by decide)) ?_
            exact evB_iret (pc := 69) dX9_all_69 rfl hL
          · rcases ite_un hL with ⟨hx, hL⟩ | ⟨hx23, hL⟩
            · refine evB_tswIn (pc := 10) (tgt := 70) dX9_all_10 hx (by decide) (by decide) rfl rfl ?_
              refine ev_iconst (pc := 70) dX9_all_70 ?_
              refine ev_aload_n (pc := 71) (i := 0) dX9_all_71 rfl rfl ?_
              refine ev_get (pc := 72) (c9 := 9) (k9 := 1) dX9_all_72 fl_Cc_19 (by decide) hs1 gv9_1 ?_
              obtain ⟨hs21, hL⟩ := cC_un hL
              refine ev_get (pc := 75) (c9 := 0) (k9 := 5) dX9_all_75 fl_Cc_359 (by decide) hs21 gv0_5 ?_
              refine ev_ishl (pc := 78) dX9_all_78 ?_
              refine ev_iconst (pc := 79) dX9_all_79 ?_
              refine ev_isub (pc := 80) dX9_all_80 ?_
              refine ev_aload_n (pc := 81) (i := 0) dX9_all_81 rfl rfl ?_
              refine ev_get (pc := 82) (c9 := 9) (k9 := 10) dX9_all_82 fl_Cc_58 (by decide) hs1 (gv9_10 hs1) ?_
              obtain ⟨hs22, hL⟩ := cC_un hL
              refine ev_get (pc := 85) (c9 := 7) (k9 := 5) dX9_all_85 fl_Cc_362 (by decide) hs22 gv7_5 ?_
              refine ev_isub (pc := 88) dX9_all_88 ?_
              exact evB_iret (pc := 89) dX9_all_89 rfl hL
            · rcases ite_un hL with ⟨hx, hL⟩ | ⟨hx28, hL⟩
              · refine evB_tswIn (pc := 10) (tgt := 90) dX9_all_10 hx (by decide) (by decide) rfl rfl ?_
                refine ev_aload_n (pc := 90) (i := 0) dX9_all_90 rfl rfl ?_
                refine ev_get (pc := 91) (c9 := 9) (k9 := 10) dX9_all_91 fl_Cc_58 (by decide) hs1 (gv9_10 hs1) ?_
                obtain ⟨hs24, hL⟩ := cC_un hL
                obtain ⟨r25, h26, hc27, hL⟩ := cl_un hL
                refine evB_callV_I (pc := 94) (M_St_allDebt hc27) dX9_all_94 mt_St_allDebt st_St_allDebt ml_Cc_289 hs24 (by decide) ⟨_, rfl, rfl⟩ (Nat.le_of_ble_eq_true rfl) rfl rfl (Nat.le_trans sm_z (by decide)) ?_
                exact evB_iret (pc := 97) dX9_all_97 rfl hL
              · rcases ite_un hL with ⟨hx, hL⟩ | ⟨hx32, hL⟩
                · refine evB_tswIn (pc := 10) (tgt := 98) dX9_all_10 hx (by decide) (by decide) rfl rfl ?_
                  refine ev_aload_n (pc := 98) (i := 0) dX9_all_98 rfl rfl ?_
                  obtain ⟨r29, h30, hc31, hL⟩ := cl_un hL
                  refine evB_callV_I (pc := 99) (M_Cc_freePeople hc31) dX9_all_99 mt_Cc_freePeople st_Cc_freePeople ml_Cc_365 hs1 (by decide) ⟨_, rfl, rfl⟩ (Nat.le_of_ble_eq_true rfl) rfl rfl (Nat.le_trans sm_z (by decide)) ?_
                  exact evB_iret (pc := 102) dX9_all_102 rfl hL
                · rcases ite_un hL with ⟨hx, hL⟩ | ⟨hx34, hL⟩
                  · refine evB_tswIn (pc := 10) (tgt := 103) dX9_all_10 hx (by decide) (by decide) rfl rfl ?_
                    refine ev_aload_n (pc := 103) (i := 0) dX9_all_103 rfl rfl ?_
                    refine ev_get (pc := 104) (c9 := 9) (k9 := 10) dX9_all_104 fl_Cc_58 (by decide) hs1 (gv9_10 hs1) ?_
                    obtain ⟨hs33, hL⟩ := cC_un hL
                    refine ev_get (pc := 107) (c9 := 7) (k9 := 7) dX9_all_107 fl_Cc_269 (by decide) hs33 gv7_7 ?_
                    exact evB_iret (pc := 110) dX9_all_110 rfl hL
                  · rcases ite_un hL with ⟨hx, hL⟩ | ⟨hx38, hL⟩
                    · refine evB_tswIn (pc := 10) (tgt := 111) dX9_all_10 hx (by decide) (by decide) rfl rfl ?_
                      refine ev_aload_n (pc := 111) (i := 0) dX9_all_111 rfl rfl ?_
                      obtain ⟨r35, h36, hc37, hL⟩ := cl_un hL
                      refine evB_callV_I (pc := 112) (M_Cc_neverSitting hc37) dX9_all_112 mt_Cc_neverSitting st_Cc_neverSitting ml_Cc_368 hs1 (by decide) ⟨_, rfl, rfl⟩ (Nat.le_of_ble_eq_true rfl) rfl rfl (Nat.le_trans sm_z (by decide)) ?_
                      exact evB_iret (pc := 115) dX9_all_115 rfl hL
                    · rcases ite_un hL with ⟨hx, hL⟩ | ⟨hx42, hL⟩
                      · refine evB_tswIn (pc := 10) (tgt := 116) dX9_all_10 hx (by decide) (by decide) rfl rfl ?_
                        refine ev_aload_n (pc := 116) (i := 0) dX9_all_116 rfl rfl ?_
                        obtain ⟨r39, h40, hc41, hL⟩ := cl_un hL
                        refine evB_callV_I (pc := 117) (M_Cc_party hc41) dX9_all_117 mt_Cc_party st_Cc_party ml_Cc_371 hs1 (by decide) ⟨_, rfl, rfl⟩ (Nat.le_of_ble_eq_true rfl) rfl rfl (Nat.le_trans sm_z (by decide)) ?_
                        exact evB_iret (pc := 120) dX9_all_120 rfl hL
                      · refine evB_tswOut (pc := 10) (tgt := 121) dX9_all_10 (by omega) rfl ?_
                        refine ev_iconst (pc := 121) dX9_all_121 ?_
                        exact evB_iret (pc := 122) dX9_all_122 rfl hL
set_option maxHeartbeats 1000000 in
set_option maxRecDepth 100000 in
theorem M_Cc_isPerson {ω : Wd} {z : Nat → Prop} {h h' : Hp} {a0 a1 r : Int}  (hL : Cc_isPerson h a0 a1 = some (r, h')) : CtB ω N_Cc_isPerson 1 [aV ω a0, iV a1] z h (some (iV r)) h' := by
  unfold Cc_isPerson at hL
  refine Ct_of (lv := [some (aV ω a0), some (iV a1)]) (by decide) (Nat.le_trans (sl_1 (cat_aV _ _) (sl_1 (cat_iV _) sl_z)) (Nat.le_of_ble_eq_true rfl)) (la_1 (cat_aV _ _) (la_1 (cat_iV _) la_z)) ?_
  refine ev_iload_n (pc := 0) (i := 1) dX9_isPerson_0 rfl rfl ?_
  refine ev_if_lt (pc := 1) (tgt := 19) dX9_isPerson_1 rfl hL rfl (fun hL => ?_) (fun hL => ?_)
  · refine ev_iconst (pc := 19) dX9_isPerson_19 ?_
    exact evB_zret (pc := 20) dX9_isPerson_20 rfl rfl hL
  · refine ev_iload_n (pc := 4) (i := 1) dX9_isPerson_4 rfl rfl ?_
    refine ev_aload_n (pc := 5) (i := 0) dX9_isPerson_5 rfl rfl ?_
    obtain ⟨hs1, hL⟩ := cC_un hL
    refine ev_get (pc := 6) (c9 := 9) (k9 := 1) dX9_isPerson_6 fl_Cc_19 (by decide) hs1 gv9_1 ?_
    obtain ⟨hs2, hL⟩ := cC_un hL
    refine ev_get (pc := 9) (c9 := 0) (k9 := 4) dX9_isPerson_9 fl_Cc_391 (by decide) hs2 gv0_4 ?_
    refine ev_icmp_ge (pc := 12) (tgt := 19) dX9_isPerson_12 rfl hL rfl (fun hL => ?_) (fun hL => ?_)
    · refine ev_iconst (pc := 15) dX9_isPerson_15 ?_
      refine ev_goto (pc := 16) (tgt := 20) dX9_isPerson_16 rfl ?_
      exact evB_zret (pc := 20) dX9_isPerson_20 rfl rfl hL
    · refine ev_iconst (pc := 19) dX9_isPerson_19 ?_
      exact evB_zret (pc := 20) dX9_isPerson_20 rfl rfl hL
set_option maxHeartbeats 1000000 in
set_option maxRecDepth 100000 in
theorem M_Cc_areTwo {ω : Wd} {z : Nat → Prop} {h h' : Hp} {a0 a1 a2 r : Int}  (hL : Cc_areTwo h a0 a1 a2 = some (r, h')) : CtB ω N_Cc_areTwo 2 [aV ω a0, iV a1, iV a2] z h (some (iV r)) h' := by
  unfold Cc_areTwo at hL
  refine Ct_of (lv := [some (aV ω a0), some (iV a1), some (iV a2)]) (by decide) (Nat.le_trans (sl_1 (cat_aV _ _) (sl_1 (cat_iV _) (sl_1 (cat_iV _) sl_z))) (Nat.le_of_ble_eq_true rfl)) (la_1 (cat_aV _ _) (la_1 (cat_iV _) (la_1 (cat_iV _) la_z))) ?_
  refine ev_aload_n (pc := 0) (i := 0) dX9_areTwo_0 rfl rfl ?_
  refine ev_iload_n (pc := 1) (i := 1) dX9_areTwo_1 rfl rfl ?_
  obtain ⟨hs1, hL⟩ := cC_un hL
  obtain ⟨r2, h3, hc4, hL⟩ := cl_un hL
  refine evB_callV_I (pc := 2) (M_Cc_isPerson hc4) dX9_areTwo_2 mt_Cc_isPerson st_Cc_isPerson ml_Cc_132 hs1 (by decide) ⟨_, rfl, rfl⟩ (Nat.le_of_ble_eq_true rfl) rfl rfl (Nat.le_trans sm_z (by decide)) ?_
  refine ev_if_eq (pc := 5) (tgt := 25) dX9_areTwo_5 rfl hL rfl (fun hL => ?_) (fun hL => ?_)
  · refine ev_iconst (pc := 25) dX9_areTwo_25 ?_
    exact evB_zret (pc := 26) dX9_areTwo_26 rfl rfl hL
  · refine ev_aload_n (pc := 8) (i := 0) dX9_areTwo_8 rfl rfl ?_
    refine ev_iload_n (pc := 9) (i := 2) dX9_areTwo_9 rfl rfl ?_
    obtain ⟨r5, h6, hc7, hL⟩ := cl_un hL
    refine evB_callV_I (pc := 10) (M_Cc_isPerson hc7) dX9_areTwo_10 mt_Cc_isPerson st_Cc_isPerson ml_Cc_132 hs1 (by decide) ⟨_, rfl, rfl⟩ (Nat.le_of_ble_eq_true rfl) rfl rfl (Nat.le_trans sm_z (by decide)) ?_
    refine ev_if_eq (pc := 13) (tgt := 25) dX9_areTwo_13 rfl hL rfl (fun hL => ?_) (fun hL => ?_)
    · refine ev_iconst (pc := 25) dX9_areTwo_25 ?_
      exact evB_zret (pc := 26) dX9_areTwo_26 rfl rfl hL
    · refine ev_iload_n (pc := 16) (i := 1) dX9_areTwo_16 rfl rfl ?_
      refine ev_iload_n (pc := 17) (i := 2) dX9_areTwo_17 rfl rfl ?_
      refine ev_icmp_eq (pc := 18) (tgt := 25) dX9_areTwo_18 rfl hL rfl (fun hL => ?_) (fun hL => ?_)
      · refine ev_iconst (pc := 25) dX9_areTwo_25 ?_
        exact evB_zret (pc := 26) dX9_areTwo_26 rfl rfl hL
      · refine ev_iconst (pc := 21) dX9_areTwo_21 ?_
        refine ev_goto (pc := 22) (tgt := 26) dX9_areTwo_22 rfl ?_
        exact evB_zret (pc := 26) dX9_areTwo_26 rfl rfl hL
set_option maxHeartbeats 1000000 in
set_option maxRecDepth 100000 in
theorem M_Cc_appealIn {ω : Wd} {z : Nat → Prop} {h h' : Hp} {a0 a1 a2 a3 r : Int}  (hL : Cc_appealIn h a0 a1 a2 a3 = some (r, h')) : CtB ω N_Cc_appealIn 4 [aV ω a0, aV ω a1, iV a2, iV a3] z h (some (iV r)) h' := by
  unfold Cc_appealIn at hL
  refine Ct_of (lv := [some (aV ω a0), some (aV ω a1), some (iV a2), some (iV a3)]) (by decide) (Nat.le_trans (sl_1 (cat_aV _ _) (sl_1 (cat_aV _ _) (sl_1 (cat_iV _) (sl_1 (cat_iV _) sl_z)))) (Nat.le_of_ble_eq_true rfl)) (la_1 (cat_aV _ _) (la_1 (cat_aV _ _) (la_1 (cat_iV _) (la_1 (cat_iV _) la_z)))) ?_
  refine ev_aload_n (pc := 0) (i := 0) dX9_appealIn_0 rfl rfl ?_
  refine ev_iload_n (pc := 1) (i := 2) dX9_appealIn_1 rfl rfl ?_
  refine ev_iload_n (pc := 2) (i := 3) dX9_appealIn_2 rfl rfl ?_
  obtain ⟨hs1, hL⟩ := cC_un hL
  obtain ⟨r2, h3, hc4, hL⟩ := cl_un hL
  refine evB_callV_I (pc := 3) (M_Cc_areTwo hc4) dX9_appealIn_3 mt_Cc_areTwo st_Cc_areTwo ml_Cc_205 hs1 (by decide) ⟨_, rfl, rfl⟩ (Nat.le_of_ble_eq_true rfl) rfl rfl (Nat.le_trans sm_z (by decide)) ?_
  refine ev_if_eq (pc := 6) (tgt := 27) dX9_appealIn_6 rfl hL rfl (fun hL => ?_) (fun hL => ?_)
  · refine ev_iconst (pc := 27) dX9_appealIn_27 ?_
    exact evB_zret (pc := 28) dX9_appealIn_28 rfl rfl hL
  · refine ev_aload_n (pc := 9) (i := 1) dX9_appealIn_9 rfl rfl ?_
    refine ev_iload_n (pc := 10) (i := 2) dX9_appealIn_10 rfl rfl ?_
    refine ev_iload_n (pc := 11) (i := 3) dX9_appealIn_11 rfl rfl ?_
    obtain ⟨hs5, hL⟩ := cC_un hL
    obtain ⟨r6, h7, hc8, hL⟩ := cl_un hL
    refine evB_callV_I (pc := 12) (M_St_owes hc8) dX9_appealIn_12 mt_St_owes st_St_owes ml_Cc_184 hs5 (by decide) ⟨_, rfl, rfl⟩ (Nat.le_of_ble_eq_true rfl) rfl rfl (Nat.le_trans sm_z (by decide)) ?_
    refine ev_iconst (pc := 15) dX9_appealIn_15 ?_
    refine ev_icmp_lt (pc := 16) (tgt := 27) dX9_appealIn_16 rfl hL rfl (fun hL => ?_) (fun hL => ?_)
    · refine ev_iconst (pc := 27) dX9_appealIn_27 ?_
      exact evB_zret (pc := 28) dX9_appealIn_28 rfl rfl hL
    · refine ev_aload_n (pc := 19) (i := 1) dX9_appealIn_19 rfl rfl ?_
      refine ev_get (pc := 20) (c9 := 7) (k9 := 6) dX9_appealIn_20 fl_Cc_209 (by decide) hs5 gv7_6 ?_
      refine ev_iconst (pc := 23) dX9_appealIn_23 ?_
      refine ev_icmp_ge (pc := 24) (tgt := 29) dX9_appealIn_24 rfl hL rfl (fun hL => ?_) (fun hL => ?_)
      · refine ev_iconst (pc := 27) dX9_appealIn_27 ?_
        exact evB_zret (pc := 28) dX9_appealIn_28 rfl rfl hL
      · refine ev_aload_n (pc := 29) (i := 1) dX9_appealIn_29 rfl rfl ?_
        refine ev_dup (pc := 30) dX9_appealIn_30 (cat_aV _ _) ?_
        refine ev_get (pc := 31) (c9 := 7) (k9 := 6) dX9_appealIn_31 fl_Cc_209 (by decide) hs5 gv7_6 ?_
        refine ev_iconst (pc := 34) dX9_appealIn_34 ?_
        refine ev_isub (pc := 35) dX9_appealIn_35 ?_
        refine evB_putI (pc := 36) (c9 := 7) (k9 := 6) (kI := 6) dX9_appealIn_36 fl_Cc_209 hs5 (by decide) (fun q hq => by cases hq; rfl) rfl rfl rfl ?_
        refine ev_puG hL (fun h9 hL => ?_)
        refine ev_aload_n (pc := 39) (i := 1) dX9_appealIn_39 rfl rfl ?_
        refine ev_iload_n (pc := 40) (i := 2) dX9_appealIn_40 rfl rfl ?_
        refine ev_iload_n (pc := 41) (i := 3) dX9_appealIn_41 rfl rfl ?_
        refine ev_aload_n (pc := 42) (i := 1) dX9_appealIn_42 rfl rfl ?_
        refine ev_iload_n (pc := 43) (i := 2) dX9_appealIn_43 rfl rfl ?_
        refine ev_iload_n (pc := 44) (i := 3) dX9_appealIn_44 rfl rfl ?_
        obtain ⟨r10, h11, hc12, hL⟩ := cl_un hL
        refine evB_callV_I (pc := 45) (M_St_owes hc12) dX9_appealIn_45 mt_St_owes st_St_owes ml_Cc_184 hs5 (by decide) ⟨_, rfl, rfl⟩ (Nat.le_of_ble_eq_true rfl) rfl rfl (Nat.le_trans (sm_1 (cat_iV _) (sm_1 (cat_iV _) (sm_1 (cat_aV _ _) sm_z))) (by decide)) ?_
        refine ev_iconst (pc := 48) dX9_appealIn_48 ?_
        refine ev_idiv (pc := 49) dX9_appealIn_49 hL (fun hL => ?_)
        refine ev_ineg (pc := 50) dX9_appealIn_50 ?_
        obtain ⟨r13, h14, hc15, hL⟩ := cl_un hL
        refine evB_callV_V (pc := 51) (M_St_owe hc15) dX9_appealIn_51 mt_St_owe st_St_owe ml_Cc_418 hs5 (by decide) ⟨_, rfl, rfl⟩ (Nat.le_of_ble_eq_true rfl) rfl rfl (Nat.le_trans sm_z (by decide)) ?_
        refine ev_iconst (pc := 54) dX9_appealIn_54 ?_
        exact evB_zret (pc := 55) dX9_appealIn_55 rfl rfl hL
set_option maxHeartbeats 1000000 in
set_option maxRecDepth 100000 in
theorem M_Ps_keep {ω : Wd} {z : Nat → Prop} {h h' : Hp} {a0 r : Int}  (hL : Ps_keep h a0 = some (r, h')) : CtB ω N_Ps_keep 1 [aV ω a0] z h none h' := by
  unfold Ps_keep at hL
  refine Ct_of (lv := [some (aV ω a0)]) (by decide) (Nat.le_trans (sl_1 (cat_aV _ _) sl_z) (Nat.le_of_ble_eq_true rfl)) (la_1 (cat_aV _ _) la_z) ?_
  refine ev_aload_n (pc := 0) (i := 0) dX4_keep_0 rfl rfl ?_
  obtain ⟨hs1, hL⟩ := cC_un hL
  refine ev_get (pc := 1) (c9 := 4) (k9 := 2) dX4_keep_1 fl_Ps_21 (by decide) hs1 gv4_2 ?_
  refine ev_bipush (pc := 4) dX4_keep_4 (by decide) ?_
  refine ev_icmp_ge (pc := 6) (tgt := 22) dX4_keep_6 rfl hL rfl (fun hL => ?_) (fun hL => ?_)
  · refine ev_aload_n (pc := 9) (i := 0) dX4_keep_9 rfl rfl ?_
    refine ev_dup (pc := 10) dX4_keep_10 (cat_aV _ _) ?_
    refine ev_get (pc := 11) (c9 := 4) (k9 := 2) dX4_keep_11 fl_Ps_21 (by decide) hs1 gv4_2 ?_
    refine ev_iconst (pc := 14) dX4_keep_14 ?_
    refine ev_iadd (pc := 15) dX4_keep_15 ?_
    refine evB_putI (pc := 16) (c9 := 4) (k9 := 2) (kI := 2) dX4_keep_16 fl_Ps_21 hs1 (by decide) (fun q hq => by cases hq; rfl) rfl rfl rfl ?_
    refine ev_puG hL (fun h2 hL => ?_)
    refine ev_goto (pc := 19) (tgt := 35) dX4_keep_19 rfl ?_
    exact evB_vret (pc := 35) dX4_keep_35 rfl hL
  · refine ev_aload_n (pc := 22) (i := 0) dX4_keep_22 rfl rfl ?_
    refine ev_aload_n (pc := 23) (i := 0) dX4_keep_23 rfl rfl ?_
    refine ev_get (pc := 24) (c9 := 4) (k9 := 1) dX4_keep_24 fl_Ps_17 (by decide) hs1 gv4_1 ?_
    refine ev_iconst (pc := 27) dX4_keep_27 ?_
    refine ev_iadd (pc := 28) dX4_keep_28 ?_
    refine ev_bipush (pc := 29) dX4_keep_29 (by decide) ?_
    refine ev_irem (pc := 31) dX4_keep_31 hL (fun hL => ?_)
    refine evB_putI (pc := 32) (c9 := 4) (k9 := 1) (kI := 1) dX4_keep_32 fl_Ps_17 hs1 (by decide) (fun q hq => by cases hq; rfl) rfl rfl rfl ?_
    refine ev_puG hL (fun h3 hL => ?_)
    exact evB_vret (pc := 35) dX4_keep_35 rfl hL
set_option maxHeartbeats 1000000 in
set_option maxRecDepth 100000 in
theorem KPs_last_b36 {ω : Wd} {z : Nat → Prop}  {h h' : Hp} {y0 r : Int}  (hL : Ps_last_b36 h y0 = some (r, h')) : EvB ω N_Ps_last 1 (QB (some (aV ω r)) z h') z h 36 [none, none, none] [aV ω y0] := by
  unfold Ps_last_b36 at hL
  refine ev_astore_n (pc := 36) (i := 2) (isA_aV _ _) dX4_last_36 rfl (lnl_n rfl) (Nat.le_of_ble_eq_true rfl) ?_
  refine ev_aload_n (pc := 37) (i := 2) dX4_last_37 rfl rfl ?_
  refine ev_ifnonnull (pc := 38) (tgt := 51) dX4_last_38 rfl hL rfl (fun hL => ?_) (fun hL => ?_)
  · cases hL
  · refine ev_aload_n (pc := 51) (i := 2) dX4_last_51 rfl rfl ?_
    exact evB_aret (pc := 52) dX4_last_52 rfl (Or.inl ⟨_, rfl⟩) hL
set_option maxHeartbeats 1000000 in
set_option maxRecDepth 100000 in
theorem M_Ps_last {ω : Wd} {z : Nat → Prop} {h h' : Hp} {a0 r : Int}  (hL : Ps_last h a0 = some (r, h')) : CtB ω N_Ps_last 1 [aV ω a0] z h (some (aV ω r)) h' := by
  unfold Ps_last at hL
  refine Ct_of (lv := [some (aV ω a0), none, none]) (by decide) (Nat.le_trans (sl_1 (cat_aV _ _) sl_z) (Nat.le_of_ble_eq_true rfl)) (la_1 (cat_aV _ _) (la_n (la_n la_z))) ?_
  refine ev_aload_n (pc := 0) (i := 0) dX4_last_0 rfl rfl ?_
  obtain ⟨hs1, hL⟩ := cC_un hL
  refine ev_get (pc := 1) (c9 := 4) (k9 := 1) dX4_last_1 fl_Ps_17 (by decide) hs1 gv4_1 ?_
  refine ev_aload_n (pc := 4) (i := 0) dX4_last_4 rfl rfl ?_
  refine ev_get (pc := 5) (c9 := 4) (k9 := 2) dX4_last_5 fl_Ps_21 (by decide) hs1 gv4_2 ?_
  refine ev_iadd (pc := 8) dX4_last_8 ?_
  refine ev_bipush (pc := 9) dX4_last_9 (by decide) ?_
  refine ev_irem (pc := 11) dX4_last_11 hL (fun hL => ?_)
  refine ev_bdI hL (fun v2 hL => ?_)
  refine ev_istore_n (pc := 12) (i := 1) dX4_last_12 rfl (lnl_v (cat_aV _ _) rfl) (Nat.le_of_ble_eq_true rfl) ?_
  refine ev_iload_n (pc := 13) (i := 1) dX4_last_13 rfl rfl ?_
  refine ev_if_lt (pc := 14) (tgt := 35) dX4_last_14 rfl hL rfl (fun hL => ?_) (fun hL => ?_)
  · refine ev_null (pc := 35) dX4_last_35 ?_
    exact ev_le (lvle_n (lvle_n (lvle_n lvle_z))) (KPs_last_b36  hL)
  · refine ev_iload_n (pc := 17) (i := 1) dX4_last_17 rfl rfl ?_
    refine ev_aload_n (pc := 18) (i := 0) dX4_last_18 rfl rfl ?_
    refine ev_get (pc := 19) (c9 := 4) (k9 := 0) dX4_last_19 fl_Ps_13 (by decide) hs1 (gv4_0 hs1) ?_
    obtain ⟨q3a, hL⟩ := cN_un hL
    refine ev_alen (pc := 22) dX4_last_22 q3a ?_
    refine ev_icmp_ge (pc := 23) (tgt := 35) dX4_last_23 rfl hL rfl (fun hL => ?_) (fun hL => ?_)
    · refine ev_aload_n (pc := 26) (i := 0) dX4_last_26 rfl rfl ?_
      refine ev_get (pc := 27) (c9 := 4) (k9 := 0) dX4_last_27 fl_Ps_13 (by decide) hs1 (gv4_0 hs1) ?_
      refine ev_iload_n (pc := 30) (i := 1) dX4_last_30 rfl rfl ?_
      obtain ⟨q4a, q4b, q4c, hL⟩ := cX_un hL
      refine ev_aald (pc := 31) dX4_last_31 (by rw [q4a]; decide) q4b q4c ?_
      refine ev_goto (pc := 32) (tgt := 36) dX4_last_32 rfl ?_
      exact ev_le (lvle_n (lvle_n (lvle_n lvle_z))) (KPs_last_b36  hL)
    · refine ev_null (pc := 35) dX4_last_35 ?_
      exact ev_le (lvle_n (lvle_n (lvle_n lvle_z))) (KPs_last_b36  hL)
set_option maxHeartbeats 1000000 in
set_option maxRecDepth 100000 in
theorem M_Ps_offer {ω : Wd} {z : Nat → Prop} {h h' : Hp} {a0 a1 r : Int}  (hL : Ps_offer h a0 a1 = some (r, h')) : CtB ω N_Ps_offer 3 [aV ω a0, aV ω a1] z h none h' := by
  unfold Ps_offer at hL
  refine Ct_of (lv := [some (aV ω a0), some (aV ω a1)]) (by decide) (Nat.le_trans (sl_1 (cat_aV _ _) (sl_1 (cat_aV _ _) sl_z)) (Nat.le_of_ble_eq_true rfl)) (la_1 (cat_aV _ _) (la_1 (cat_aV _ _) la_z)) ?_
  refine ev_aload_n (pc := 0) (i := 0) dX4_offer_0 rfl rfl ?_
  obtain ⟨hs1, hL⟩ := cC_un hL
  obtain ⟨r2, h3, hc4, hL⟩ := cl_un hL
  refine evB_callV_A (pc := 1) (M_Ps_last hc4) dX4_offer_1 mt_Ps_last st_Ps_last ml_Ps_25 hs1 (by decide) ⟨_, rfl, rfl⟩ (Nat.le_of_ble_eq_true rfl) rfl rfl (Nat.le_trans sm_z (by decide)) ?_
  refine ev_aload_n (pc := 4) (i := 1) dX4_offer_4 rfl rfl ?_
  obtain ⟨hs5, hL⟩ := cC_un hL
  obtain ⟨r6, h7, hc8, hL⟩ := cl_un hL
  refine evB_callV_V (pc := 5) (M_St_copy hc8) dX4_offer_5 mt_St_copy st_St_copy ml_Ps_29 hs5 (by decide) ⟨_, rfl, rfl⟩ (Nat.le_of_ble_eq_true rfl) rfl rfl (Nat.le_trans sm_z (by decide)) ?_
  exact evB_vret (pc := 8) dX4_offer_8 rfl hL
set_option maxHeartbeats 1000000 in
set_option maxRecDepth 100000 in
theorem M_Cc_appeal {ω : Wd} {z : Nat → Prop} {h h' : Hp} {a0 a1 a2 r : Int}  (hL : Cc_appeal h a0 a1 a2 = some (r, h')) : CtB ω N_Cc_appeal 5 [aV ω a0, iV a1, iV a2] z h (some (iV r)) h' := by
  unfold Cc_appeal at hL
  refine Ct_of (lv := [some (aV ω a0), some (iV a1), some (iV a2)]) (by decide) (Nat.le_trans (sl_1 (cat_aV _ _) (sl_1 (cat_iV _) (sl_1 (cat_iV _) sl_z))) (Nat.le_of_ble_eq_true rfl)) (la_1 (cat_aV _ _) (la_1 (cat_iV _) (la_1 (cat_iV _) la_z))) ?_
  refine ev_aload_n (pc := 0) (i := 0) dX9_appeal_0 rfl rfl ?_
  obtain ⟨hs1, hL⟩ := cC_un hL
  refine ev_get (pc := 1) (c9 := 9) (k9 := 14) dX9_appeal_1 fl_Cc_75 (by decide) hs1 (gv9_14 hs1) ?_
  refine ev_aload_n (pc := 4) (i := 0) dX9_appeal_4 rfl rfl ?_
  refine ev_get (pc := 5) (c9 := 9) (k9 := 10) dX9_appeal_5 fl_Cc_58 (by decide) hs1 (gv9_10 hs1) ?_
  obtain ⟨hs2, hL⟩ := cC_un hL
  obtain ⟨r3, h4, hc5, hL⟩ := cl_un hL
  refine evB_callV_V (pc := 8) (M_Ps_offer hc5) dX9_appeal_8 mt_Ps_offer st_Ps_offer ml_Cc_173 hs2 (by decide) ⟨_, rfl, rfl⟩ (Nat.le_of_ble_eq_true rfl) rfl rfl (Nat.le_trans sm_z (by decide)) ?_
  refine ev_aload_n (pc := 11) (i := 0) dX9_appeal_11 rfl rfl ?_
  refine ev_aload_n (pc := 12) (i := 0) dX9_appeal_12 rfl rfl ?_
  refine ev_get (pc := 13) (c9 := 9) (k9 := 10) dX9_appeal_13 fl_Cc_58 (by decide) hs1 (gv9_10 hs1) ?_
  refine ev_iload_n (pc := 16) (i := 1) dX9_appeal_16 rfl rfl ?_
  refine ev_iload_n (pc := 17) (i := 2) dX9_appeal_17 rfl rfl ?_
  obtain ⟨r6, h7, hc8, hL⟩ := cl_un hL
  refine evB_callV_I (pc := 18) (M_Cc_appealIn hc8) dX9_appeal_18 mt_Cc_appealIn st_Cc_appealIn ml_Cc_198 hs1 (by decide) ⟨_, rfl, rfl⟩ (Nat.le_of_ble_eq_true rfl) rfl rfl (Nat.le_trans sm_z (by decide)) ?_
  refine ev_if_ne (pc := 21) (tgt := 26) dX9_appeal_21 rfl hL rfl (fun hL => ?_) (fun hL => ?_)
  · refine ev_iconst (pc := 24) dX9_appeal_24 ?_
    exact evB_iret (pc := 25) dX9_appeal_25 rfl hL
  · refine ev_aload_n (pc := 26) (i := 0) dX9_appeal_26 rfl rfl ?_
    refine ev_get (pc := 27) (c9 := 9) (k9 := 14) dX9_appeal_27 fl_Cc_75 (by decide) hs1 (gv9_14 hs1) ?_
    obtain ⟨r9, h10, hc11, hL⟩ := cl_un hL
    refine evB_callV_V (pc := 30) (M_Ps_keep hc11) dX9_appeal_30 mt_Ps_keep st_Ps_keep ml_Cc_181 hs2 (by decide) ⟨_, rfl, rfl⟩ (Nat.le_of_ble_eq_true rfl) rfl rfl (Nat.le_trans sm_z (by decide)) ?_
    refine ev_aload_n (pc := 33) (i := 0) dX9_appeal_33 rfl rfl ?_
    refine ev_get (pc := 34) (c9 := 9) (k9 := 10) dX9_appeal_34 fl_Cc_58 (by decide) hs1 (gv9_10 hs1) ?_
    refine ev_iload_n (pc := 37) (i := 1) dX9_appeal_37 rfl rfl ?_
    refine ev_iload_n (pc := 38) (i := 2) dX9_appeal_38 rfl rfl ?_
    obtain ⟨hs12, hL⟩ := cC_un hL
    obtain ⟨r13, h14, hc15, hL⟩ := cl_un hL
    refine evB_callV_I (pc := 39) (M_St_owes hc15) dX9_appeal_39 mt_St_owes st_St_owes ml_Cc_184 hs12 (by decide) ⟨_, rfl, rfl⟩ (Nat.le_of_ble_eq_true rfl) rfl rfl (Nat.le_trans sm_z (by decide)) ?_
    exact evB_iret (pc := 42) dX9_appeal_42 rfl hL
set_option maxHeartbeats 1000000 in
set_option maxRecDepth 100000 in
theorem KCc_lawAt_b23 {ω : Wd} {z : Nat → Prop}  {h h' : Hp} {y0 r : Int}  (hL : Cc_lawAt_b23 h y0 = some (r, h')) : EvB ω N_Cc_lawAt 1 (QB (some (aV ω r)) z h') z h 23 [none, none, none] [aV ω y0] := by
  unfold Cc_lawAt_b23 at hL
  refine ev_astore_n (pc := 23) (i := 2) (isA_aV _ _) dX9_lawAt_23 rfl (lnl_n rfl) (Nat.le_of_ble_eq_true rfl) ?_
  refine ev_aload_n (pc := 24) (i := 2) dX9_lawAt_24 rfl rfl ?_
  refine ev_ifnonnull (pc := 25) (tgt := 38) dX9_lawAt_25 rfl hL rfl (fun hL => ?_) (fun hL => ?_)
  · cases hL
  · refine ev_aload_n (pc := 38) (i := 2) dX9_lawAt_38 rfl rfl ?_
    exact evB_aret (pc := 39) dX9_lawAt_39 rfl (Or.inl ⟨_, rfl⟩) hL
set_option maxHeartbeats 1000000 in
set_option maxRecDepth 100000 in
theorem M_Cc_lawAt {ω : Wd} {z : Nat → Prop} {h h' : Hp} {a0 a1 r : Int}  (hL : Cc_lawAt h a0 a1 = some (r, h')) : CtB ω N_Cc_lawAt 1 [aV ω a0, iV a1] z h (some (aV ω r)) h' := by
  unfold Cc_lawAt at hL
  refine Ct_of (lv := [some (aV ω a0), some (iV a1), none]) (by decide) (Nat.le_trans (sl_1 (cat_aV _ _) (sl_1 (cat_iV _) sl_z)) (Nat.le_of_ble_eq_true rfl)) (la_1 (cat_aV _ _) (la_1 (cat_iV _) (la_n la_z))) ?_
  refine ev_iload_n (pc := 0) (i := 1) dX9_lawAt_0 rfl rfl ?_
  refine ev_if_lt (pc := 1) (tgt := 22) dX9_lawAt_1 rfl hL rfl (fun hL => ?_) (fun hL => ?_)
  · refine ev_null (pc := 22) dX9_lawAt_22 ?_
    exact ev_le (lvle_n (lvle_n (lvle_n lvle_z))) (KCc_lawAt_b23  hL)
  · refine ev_iload_n (pc := 4) (i := 1) dX9_lawAt_4 rfl rfl ?_
    refine ev_aload_n (pc := 5) (i := 0) dX9_lawAt_5 rfl rfl ?_
    obtain ⟨hs1, hL⟩ := cC_un hL
    refine ev_get (pc := 6) (c9 := 9) (k9 := 3) dX9_lawAt_6 fl_Cc_28 (by decide) hs1 (gv9_3 hs1) ?_
    obtain ⟨q2a, hL⟩ := cN_un hL
    refine ev_alen (pc := 9) dX9_lawAt_9 q2a ?_
    refine ev_icmp_ge (pc := 10) (tgt := 22) dX9_lawAt_10 rfl hL rfl (fun hL => ?_) (fun hL => ?_)
    · refine ev_aload_n (pc := 13) (i := 0) dX9_lawAt_13 rfl rfl ?_
      refine ev_get (pc := 14) (c9 := 9) (k9 := 3) dX9_lawAt_14 fl_Cc_28 (by decide) hs1 (gv9_3 hs1) ?_
      refine ev_iload_n (pc := 17) (i := 1) dX9_lawAt_17 rfl rfl ?_
      obtain ⟨q3a, q3b, q3c, hL⟩ := cX_un hL
      refine ev_aald (pc := 18) dX9_lawAt_18 (by rw [q3a]; decide) q3b q3c ?_
      refine ev_goto (pc := 19) (tgt := 23) dX9_lawAt_19 rfl ?_
      exact ev_le (lvle_n (lvle_n (lvle_n lvle_z))) (KCc_lawAt_b23  hL)
    · refine ev_null (pc := 22) dX9_lawAt_22 ?_
      exact ev_le (lvle_n (lvle_n (lvle_n lvle_z))) (KCc_lawAt_b23  hL)
set_option maxHeartbeats 1000000 in
set_option maxRecDepth 100000 in
theorem M_Cy_mostWorth {ω : Wd} {z : Nat → Prop} {h h' : Hp} {a0 r : Int}  (hL : Cy_mostWorth h a0 = some (r, h')) : CtB ω N_Cy_mostWorth 2 [aV ω a0] z h (some (iV r)) h' := by
  unfold Cy_mostWorth at hL
  refine Ct_of (lv := [some (aV ω a0)]) (by decide) (Nat.le_trans (sl_1 (cat_aV _ _) sl_z) (Nat.le_of_ble_eq_true rfl)) (la_1 (cat_aV _ _) la_z) ?_
  refine ev_aload_n (pc := 0) (i := 0) dX0_mostWorth_0 rfl rfl ?_
  obtain ⟨hs1, hL⟩ := cC_un hL
  refine ev_get (pc := 1) (c9 := 0) (k9 := 0) dX0_mostWorth_1 fl_Cy_9 (by decide) hs1 (gv0_0 hs1) ?_
  refine ev_iconst (pc := 4) dX0_mostWorth_4 ?_
  obtain ⟨r2, h3, hc4, hL⟩ := cl_un hL
  refine evB_callS_I (pc := 5) (M_Cc_at hc4) dX0_mostWorth_5 mt_Cc_at st_Cc_at ml_Cy_74 (Nat.le_of_ble_eq_true rfl) rfl rfl (Nat.le_trans sm_z (by decide)) ?_
  exact evB_iret (pc := 8) dX0_mostWorth_8 rfl hL
set_option maxHeartbeats 1000000 in
set_option maxRecDepth 100000 in
theorem M_Cy_whoOf {ω : Wd} {z : Nat → Prop} {h h' : Hp} {a0 a1 r : Int}  (hL : Cy_whoOf h a0 a1 = some (r, h')) : CtB ω N_Cy_whoOf 2 [aV ω a0, iV a1] z h (some (iV r)) h' := by
  unfold Cy_whoOf at hL
  refine Ct_of (lv := [some (aV ω a0), some (iV a1)]) (by decide) (Nat.le_trans (sl_1 (cat_aV _ _) (sl_1 (cat_iV _) sl_z)) (Nat.le_of_ble_eq_true rfl)) (la_1 (cat_aV _ _) (la_1 (cat_iV _) la_z)) ?_
  refine ev_aload_n (pc := 0) (i := 0) dX0_whoOf_0 rfl rfl ?_
  obtain ⟨hs1, hL⟩ := cC_un hL
  refine ev_get (pc := 1) (c9 := 0) (k9 := 2) dX0_whoOf_1 fl_Cy_18 (by decide) hs1 (gv0_2 hs1) ?_
  refine ev_iconst (pc := 4) dX0_whoOf_4 ?_
  refine ev_iload_n (pc := 5) (i := 1) dX0_whoOf_5 rfl rfl ?_
  refine ev_imul (pc := 6) dX0_whoOf_6 ?_
  obtain ⟨r2, h3, hc4, hL⟩ := cl_un hL
  refine evB_callS_I (pc := 7) (M_Cc_at hc4) dX0_whoOf_7 mt_Cc_at st_Cc_at ml_Cy_74 (Nat.le_of_ble_eq_true rfl) rfl rfl (Nat.le_trans sm_z (by decide)) ?_
  exact evB_iret (pc := 10) dX0_whoOf_10 rfl hL
set_option maxHeartbeats 1000000 in
set_option maxRecDepth 100000 in
theorem KCy_wrongsBy_b4_body {ω : Wd} {z : Nat → Prop}  {k4 : Hp × Int × Int × Int × Int → Option (Int × Hp)} {h h' : Hp} {x0 x1 x2 x3 r : Int}  (hk4 : ∀ s o, k4 s = some o → EvB ω N_Cy_wrongsBy 3 (QB (some (iV o.1)) z o.2) z s.1 4 [some (aV ω s.2.1), some (iV s.2.2.1), some (iV s.2.2.2.1), some (iV s.2.2.2.2)] []) (hL : Cy_wrongsBy_b4_body  k4 h x0 x1 x2 x3 = some (r, h')) : EvB ω N_Cy_wrongsBy 3 (QB (some (iV r)) z h') z h 4 [some (aV ω x0), some (iV x1), some (iV x2), some (iV x3)] [] := by
  unfold Cy_wrongsBy_b4_body at hL
  refine ev_iload_n (pc := 4) (i := 3) dX0_wrongsBy_4 rfl rfl ?_
  refine ev_aload_n (pc := 5) (i := 0) dX0_wrongsBy_5 rfl rfl ?_
  obtain ⟨hs1, hL⟩ := cC_un hL
  refine ev_get (pc := 6) (c9 := 0) (k9 := 5) dX0_wrongsBy_6 fl_Cy_29 (by decide) hs1 gv0_5 ?_
  refine ev_icmp_ge (pc := 9) (tgt := 37) dX0_wrongsBy_9 rfl hL rfl (fun hL => ?_) (fun hL => ?_)
  · refine ev_iload_n (pc := 12) (i := 2) dX0_wrongsBy_12 rfl rfl ?_
    refine ev_aload_n (pc := 13) (i := 0) dX0_wrongsBy_13 rfl rfl ?_
    refine ev_iload_n (pc := 14) (i := 3) dX0_wrongsBy_14 rfl rfl ?_
    obtain ⟨r2, h3, hc4, hL⟩ := cl_un hL
    refine evB_callV_I (pc := 15) (M_Cy_whoOf hc4) dX0_wrongsBy_15 mt_Cy_whoOf st_Cy_whoOf ml_Cy_60 hs1 (by decide) ⟨_, rfl, rfl⟩ (Nat.le_of_ble_eq_true rfl) rfl rfl (Nat.le_trans (sm_1 (cat_iV _) sm_z) (by decide)) ?_
    refine ev_iload_n (pc := 18) (i := 1) dX0_wrongsBy_18 rfl rfl ?_
    refine ev_icmp_ne (pc := 19) (tgt := 28) dX0_wrongsBy_19 rfl hL rfl (fun hL => ?_) (fun hL => ?_)
    · refine ev_iconst (pc := 22) dX0_wrongsBy_22 ?_
      refine ev_iload_n (pc := 23) (i := 3) dX0_wrongsBy_23 rfl rfl ?_
      refine ev_ishl (pc := 24) dX0_wrongsBy_24 ?_
      refine ev_goto (pc := 25) (tgt := 29) dX0_wrongsBy_25 rfl ?_
      refine ev_ior (pc := 29) dX0_wrongsBy_29 ?_
      refine ev_bdI hL (fun v5 hL => ?_)
      refine ev_istore_n (pc := 30) (i := 2) dX0_wrongsBy_30 rfl (lnl_v rfl rfl) (Nat.le_of_ble_eq_true rfl) ?_
      refine ev_iinc (pc := 31) dX0_wrongsBy_31 rfl (lnl_v rfl rfl) (Nat.le_of_ble_eq_true rfl) ?_
      refine ev_goto (pc := 34) (tgt := 4) dX0_wrongsBy_34 rfl ?_
      exact ev_le (lvle_s (lvle_s (lvle_s (lvle_s lvle_z)))) (hk4 _ _ hL)
    · refine ev_iconst (pc := 28) dX0_wrongsBy_28 ?_
      refine ev_ior (pc := 29) dX0_wrongsBy_29 ?_
      refine ev_bdI hL (fun v6 hL => ?_)
      refine ev_istore_n (pc := 30) (i := 2) dX0_wrongsBy_30 rfl (lnl_v rfl rfl) (Nat.le_of_ble_eq_true rfl) ?_
      refine ev_iinc (pc := 31) dX0_wrongsBy_31 rfl (lnl_v rfl rfl) (Nat.le_of_ble_eq_true rfl) ?_
      refine ev_goto (pc := 34) (tgt := 4) dX0_wrongsBy_34 rfl ?_
      exact ev_le (lvle_s (lvle_s (lvle_s (lvle_s lvle_z)))) (hk4 _ _ hL)
  · refine ev_iload_n (pc := 37) (i := 2) dX0_wrongsBy_37 rfl rfl ?_
    exact evB_iret (pc := 38) dX0_wrongsBy_38 rfl hL
set_option maxHeartbeats 1000000 in
set_option maxRecDepth 100000 in
theorem KCy_wrongsBy_b4 {ω : Wd} {z : Nat → Prop}  {h h' : Hp} {x0 x1 x2 x3 r : Int}  (hL : Cy_wrongsBy_b4 h x0 x1 x2 x3 = some (r, h')) : EvB ω N_Cy_wrongsBy 3 (QB (some (iV r)) z h') z h 4 [some (aV ω x0), some (iV x1), some (iV x2), some (iV x3)] [] := by
  unfold Cy_wrongsBy_b4 at hL
  refine itr_link (P := fun (s : Hp × Int × Int × Int × Int) (o : Int × Hp) => EvB ω N_Cy_wrongsBy 3 (QB (some (iV o.1)) z o.2) z s.1 4 [some (aV ω s.2.1), some (iV s.2.2.1), some (iV s.2.2.2.1), some (iV s.2.2.2.2)] []) ?_ _ _ _ hL
  intro k hk s o h9
  have h10 := KCy_wrongsBy_b4_body (ω := ω) (z := z) (k4 := k) (h := s.1) (x0 := s.2.1) (x1 := s.2.2.1) (x2 := s.2.2.2.1) (x3 := s.2.2.2.2) (r := o.1) (h' := o.2) 
  exact h10 hk h9
set_option maxHeartbeats 1000000 in
set_option maxRecDepth 100000 in
theorem M_Cy_wrongsBy {ω : Wd} {z : Nat → Prop} {h h' : Hp} {a0 a1 r : Int}  (hL : Cy_wrongsBy h a0 a1 = some (r, h')) : CtB ω N_Cy_wrongsBy 3 [aV ω a0, iV a1] z h (some (iV r)) h' := by
  unfold Cy_wrongsBy at hL
  refine Ct_of (lv := [some (aV ω a0), some (iV a1), none, none]) (by decide) (Nat.le_trans (sl_1 (cat_aV _ _) (sl_1 (cat_iV _) sl_z)) (Nat.le_of_ble_eq_true rfl)) (la_1 (cat_aV _ _) (la_1 (cat_iV _) (la_n (la_n la_z)))) ?_
  refine ev_iconst (pc := 0) dX0_wrongsBy_0 ?_
  refine ev_istore_n (pc := 1) (i := 2) dX0_wrongsBy_1 rfl (lnl_v rfl rfl) (Nat.le_of_ble_eq_true rfl) ?_
  refine ev_iconst (pc := 2) dX0_wrongsBy_2 ?_
  refine ev_istore_n (pc := 3) (i := 3) dX0_wrongsBy_3 rfl (lnl_v rfl rfl) (Nat.le_of_ble_eq_true rfl) ?_
  exact ev_le (lvle_s (lvle_s (lvle_s (lvle_s lvle_z)))) (KCy_wrongsBy_b4  hL)
set_option maxHeartbeats 1000000 in
set_option maxRecDepth 100000 in
theorem M_Lw_pop {ω : Wd} {z : Nat → Prop} {h h' : Hp} {a0 r : Int}  (hL : Lw_pop h a0 = some (r, h')) : CtB ω N_Lw_pop 1 [aV ω a0] z h (some (iV r)) h' := by
  unfold Lw_pop at hL
  refine Ct_of (lv := [some (aV ω a0)]) (by decide) (Nat.le_trans (sl_1 (cat_aV _ _) sl_z) (Nat.le_of_ble_eq_true rfl)) (la_1 (cat_aV _ _) la_z) ?_
  refine ev_aload_n (pc := 0) (i := 0) dX2_pop_0 rfl rfl ?_
  obtain ⟨hs1, hL⟩ := cC_un hL
  refine ev_get (pc := 1) (c9 := 2) (k9 := 3) dX2_pop_1 fl_Lw_22 (by decide) hs1 gv2_3 ?_
  refine ev_if_le (pc := 4) (tgt := 36) dX2_pop_4 rfl hL rfl (fun hL => ?_) (fun hL => ?_)
  · refine ev_aload_n (pc := 7) (i := 0) dX2_pop_7 rfl rfl ?_
    refine ev_get (pc := 8) (c9 := 2) (k9 := 3) dX2_pop_8 fl_Lw_22 (by decide) hs1 gv2_3 ?_
    refine ev_bipush (pc := 11) dX2_pop_11 (by decide) ?_
    refine ev_icmp_gt (pc := 13) (tgt := 36) dX2_pop_13 rfl hL rfl (fun hL => ?_) (fun hL => ?_)
    · refine ev_iconst (pc := 36) dX2_pop_36 ?_
      exact evB_iret (pc := 37) dX2_pop_37 rfl hL
    · refine ev_aload_n (pc := 16) (i := 0) dX2_pop_16 rfl rfl ?_
      refine ev_dup (pc := 17) dX2_pop_17 (cat_aV _ _) ?_
      refine ev_get (pc := 18) (c9 := 2) (k9 := 3) dX2_pop_18 fl_Lw_22 (by decide) hs1 gv2_3 ?_
      refine ev_iconst (pc := 21) dX2_pop_21 ?_
      refine ev_isub (pc := 22) dX2_pop_22 ?_
      refine evB_putI (pc := 23) (c9 := 2) (k9 := 3) (kI := 3) dX2_pop_23 fl_Lw_22 hs1 (by decide) (fun q hq => by cases hq; rfl) rfl rfl rfl ?_
      refine ev_puG hL (fun h2 hL => ?_)
      refine ev_aload_n (pc := 26) (i := 0) dX2_pop_26 rfl rfl ?_
      refine ev_get (pc := 27) (c9 := 2) (k9 := 1) dX2_pop_27 fl_Lw_15 (by decide) hs1 (gv2_1 hs1) ?_
      refine ev_aload_n (pc := 30) (i := 0) dX2_pop_30 rfl rfl ?_
      refine ev_get (pc := 31) (c9 := 2) (k9 := 3) dX2_pop_31 fl_Lw_22 (by decide) hs1 gv2_3 ?_
      obtain ⟨q3a, q3b, q3c, hL⟩ := cX_un hL
      refine ev_iald (pc := 34) dX2_pop_34 q3a q3b q3c ?_
      exact evB_iret (pc := 35) dX2_pop_35 rfl hL
  · refine ev_iconst (pc := 36) dX2_pop_36 ?_
    exact evB_iret (pc := 37) dX2_pop_37 rfl hL
set_option maxHeartbeats 1000000 in
set_option maxRecDepth 100000 in
theorem M_Lw_joined {ω : Wd} {z : Nat → Prop} {h h' : Hp} {a0 a1 a3 r : Int}  (hL : Lw_joined h a0 a1 a3 = some (r, h')) : CtB ω N_Lw_joined 1 [iV a0, lV a1, lV a3] z h (some (lV r)) h' := by
  unfold Lw_joined at hL
  refine Ct_of (lv := [some (iV a0), some (lV a1), none, some (lV a3), none]) (by decide) (Nat.le_trans (sl_1 (cat_iV _) (sl_2 (cat_lV _) (sl_2 (cat_lV _) sl_z))) (Nat.le_of_ble_eq_true rfl)) (la_1 (cat_iV _) (la_2 (cat_lV _) (la_2 (cat_lV _) la_z))) ?_
  refine ev_iload_n (pc := 0) (i := 0) dX2_joined_0 rfl rfl ?_
  rcases ite_un hL with ⟨hx, hL⟩ | ⟨hx1, hL⟩
  · refine evB_tswIn (pc := 1) (tgt := 178) dX2_joined_1 hx (by decide) (by decide) rfl rfl ?_
    refine ev_lload_n (pc := 178) (i := 1) dX2_joined_178 rfl rfl ?_
    refine ev_lload_n (pc := 179) (i := 3) dX2_joined_179 rfl rfl ?_
    refine ev_land (pc := 180) dX2_joined_180 ?_
    exact evB_lret (pc := 181) dX2_joined_181 rfl hL
  · rcases ite_un hL with ⟨hx, hL⟩ | ⟨hx2, hL⟩
    · refine evB_tswIn (pc := 1) (tgt := 182) dX2_joined_1 hx (by decide) (by decide) rfl rfl ?_
      refine ev_lload_n (pc := 182) (i := 1) dX2_joined_182 rfl rfl ?_
      refine ev_lload_n (pc := 183) (i := 3) dX2_joined_183 rfl rfl ?_
      refine ev_lor (pc := 184) dX2_joined_184 ?_
      exact evB_lret (pc := 185) dX2_joined_185 rfl hL
    · rcases ite_un hL with ⟨hx, hL⟩ | ⟨hx3, hL⟩
      · refine evB_tswIn (pc := 1) (tgt := 182) dX2_joined_1 hx (by decide) (by decide) rfl rfl ?_
        refine ev_lload_n (pc := 182) (i := 1) dX2_joined_182 rfl rfl ?_
        refine ev_lload_n (pc := 183) (i := 3) dX2_joined_183 rfl rfl ?_
        refine ev_lor (pc := 184) dX2_joined_184 ?_
        exact evB_lret (pc := 185) dX2_joined_185 rfl hL
      · rcases ite_un hL with ⟨hx, hL⟩ | ⟨hx4, hL⟩
        · refine evB_tswIn (pc := 1) (tgt := 182) dX2_joined_1 hx (by decide) (by decide) rfl rfl ?_
          refine ev_lload_n (pc := 182) (i := 1) dX2_joined_182 rfl rfl ?_
          refine ev_lload_n (pc := 183) (i := 3) dX2_joined_183 rfl rfl ?_
          refine ev_lor (pc := 184) dX2_joined_184 ?_
          exact evB_lret (pc := 185) dX2_joined_185 rfl hL
        · rcases ite_un hL with ⟨hx, hL⟩ | ⟨hx5, hL⟩
          · refine evB_tswIn (pc := 1) (tgt := 124) dX2_joined_1 hx (by decide) (by decide) rfl rfl ?_
            refine ev_lload_n (pc := 124) (i := 1) dX2_joined_124 rfl rfl ?_
            refine ev_lload_n (pc := 125) (i := 3) dX2_joined_125 rfl rfl ?_
            refine ev_lmul (pc := 126) dX2_joined_126 ?_
            exact evB_lret (pc := 127) dX2_joined_127 rfl hL
          · rcases ite_un hL with ⟨hx, hL⟩ | ⟨hx6, hL⟩
            · refine evB_tswIn (pc := 1) (tgt := 116) dX2_joined_1 hx (by decide) (by decide) rfl rfl ?_
              refine ev_lload_n (pc := 116) (i := 1) dX2_joined_116 rfl rfl ?_
              refine ev_lload_n (pc := 117) (i := 3) dX2_joined_117 rfl rfl ?_
              refine ev_ladd (pc := 118) dX2_joined_118 ?_
              exact evB_lret (pc := 119) dX2_joined_119 rfl hL
            · rcases ite_un hL with ⟨hx, hL⟩ | ⟨hx7, hL⟩
              · refine evB_tswIn (pc := 1) (tgt := 182) dX2_joined_1 hx (by decide) (by decide) rfl rfl ?_
                refine ev_lload_n (pc := 182) (i := 1) dX2_joined_182 rfl rfl ?_
                refine ev_lload_n (pc := 183) (i := 3) dX2_joined_183 rfl rfl ?_
                refine ev_lor (pc := 184) dX2_joined_184 ?_
                exact evB_lret (pc := 185) dX2_joined_185 rfl hL
              · rcases ite_un hL with ⟨hx, hL⟩ | ⟨hx8, hL⟩
                · refine evB_tswIn (pc := 1) (tgt := 120) dX2_joined_1 hx (by decide) (by decide) rfl rfl ?_
                  refine ev_lload_n (pc := 120) (i := 1) dX2_joined_120 rfl rfl ?_
                  refine ev_lload_n (pc := 121) (i := 3) dX2_joined_121 rfl rfl ?_
                  refine ev_lsub (pc := 122) dX2_joined_122 ?_
                  exact evB_lret (pc := 123) dX2_joined_123 rfl hL
                · rcases ite_un hL with ⟨hx, hL⟩ | ⟨hx9, hL⟩
                  · refine evB_tswIn (pc := 1) (tgt := 182) dX2_joined_1 hx (by decide) (by decide) rfl rfl ?_
                    refine ev_lload_n (pc := 182) (i := 1) dX2_joined_182 rfl rfl ?_
                    refine ev_lload_n (pc := 183) (i := 3) dX2_joined_183 rfl rfl ?_
                    refine ev_lor (pc := 184) dX2_joined_184 ?_
                    exact evB_lret (pc := 185) dX2_joined_185 rfl hL
                  · rcases ite_un hL with ⟨hx, hL⟩ | ⟨hx10, hL⟩
                    · refine evB_tswIn (pc := 1) (tgt := 128) dX2_joined_1 hx (by decide) (by decide) rfl rfl ?_
                      refine ev_lload_n (pc := 128) (i := 3) dX2_joined_128 rfl rfl ?_
                      refine ev_lconst (pc := 129) (x := 0) dX2_joined_129 rfl ?_
                      refine ev_lcmp (pc := 130) dX2_joined_130 ?_
                      refine ev_if_ne (pc := 131) (tgt := 138) dX2_joined_131 rfl hL rfl (fun hL => ?_) (fun hL => ?_)
                      · refine ev_lconst (pc := 134) (x := 0) dX2_joined_134 rfl ?_
                        refine ev_goto (pc := 135) (tgt := 141) dX2_joined_135 rfl ?_
                        exact evB_lret (pc := 141) dX2_joined_141 rfl hL
                      · refine ev_lload_n (pc := 138) (i := 1) dX2_joined_138 rfl rfl ?_
                        refine ev_lload_n (pc := 139) (i := 3) dX2_joined_139 rfl rfl ?_
                        refine ev_ldiv (pc := 140) dX2_joined_140 hL (fun hL => ?_)
                        exact evB_lret (pc := 141) dX2_joined_141 rfl hL
                    · rcases ite_un hL with ⟨hx, hL⟩ | ⟨hx11, hL⟩
                      · refine evB_tswIn (pc := 1) (tgt := 182) dX2_joined_1 hx (by decide) (by decide) rfl rfl ?_
                        refine ev_lload_n (pc := 182) (i := 1) dX2_joined_182 rfl rfl ?_
                        refine ev_lload_n (pc := 183) (i := 3) dX2_joined_183 rfl rfl ?_
                        refine ev_lor (pc := 184) dX2_joined_184 ?_
                        exact evB_lret (pc := 185) dX2_joined_185 rfl hL
                      · rcases ite_un hL with ⟨hx, hL⟩ | ⟨hx12, hL⟩
                        · refine evB_tswIn (pc := 1) (tgt := 182) dX2_joined_1 hx (by decide) (by decide) rfl rfl ?_
                          refine ev_lload_n (pc := 182) (i := 1) dX2_joined_182 rfl rfl ?_
                          refine ev_lload_n (pc := 183) (i := 3) dX2_joined_183 rfl rfl ?_
                          refine ev_lor (pc := 184) dX2_joined_184 ?_
                          exact evB_lret (pc := 185) dX2_joined_185 rfl hL
                        · rcases ite_un hL with ⟨hx, hL⟩ | ⟨hx13, hL⟩
                          · refine evB_tswIn (pc := 1) (tgt := 182) dX2_joined_1 hx (by decide) (by decide) rfl rfl ?_
                            refine ev_lload_n (pc := 182) (i := 1) dX2_joined_182 rfl rfl ?_
                            refine ev_lload_n (pc := 183) (i := 3) dX2_joined_183 rfl rfl ?_
                            refine ev_lor (pc := 184) dX2_joined_184 ?_
                            exact evB_lret (pc := 185) dX2_joined_185 rfl hL
                          · rcases ite_un hL with ⟨hx, hL⟩ | ⟨hx14, hL⟩
                            · refine evB_tswIn (pc := 1) (tgt := 182) dX2_joined_1 hx (by decide) (by decide) rfl rfl ?_
                              refine ev_lload_n (pc := 182) (i := 1) dX2_joined_182 rfl rfl ?_
                              refine ev_lload_n (pc := 183) (i := 3) dX2_joined_183 rfl rfl ?_
                              refine ev_lor (pc := 184) dX2_joined_184 ?_
                              exact evB_lret (pc := 185) dX2_joined_185 rfl hL
                            · rcases ite_un hL with ⟨hx, hL⟩ | ⟨hx15, hL⟩
                              · refine evB_tswIn (pc := 1) (tgt := 182) dX2_joined_1 hx (by decide) (by decide) rfl rfl ?_
                                refine ev_lload_n (pc := 182) (i := 1) dX2_joined_182 rfl rfl ?_
                                refine ev_lload_n (pc := 183) (i := 3) dX2_joined_183 rfl rfl ?_
                                refine ev_lor (pc := 184) dX2_joined_184 ?_
                                exact evB_lret (pc := 185) dX2_joined_185 rfl hL
                              · rcases ite_un hL with ⟨hx, hL⟩ | ⟨hx16, hL⟩
                                · refine evB_tswIn (pc := 1) (tgt := 182) dX2_joined_1 hx (by decide) (by decide) rfl rfl ?_
                                  refine ev_lload_n (pc := 182) (i := 1) dX2_joined_182 rfl rfl ?_
                                  refine ev_lload_n (pc := 183) (i := 3) dX2_joined_183 rfl rfl ?_
                                  refine ev_lor (pc := 184) dX2_joined_184 ?_
                                  exact evB_lret (pc := 185) dX2_joined_185 rfl hL
                                · rcases ite_un hL with ⟨hx, hL⟩ | ⟨hx17, hL⟩
                                  · refine evB_tswIn (pc := 1) (tgt := 182) dX2_joined_1 hx (by decide) (by decide) rfl rfl ?_
                                    refine ev_lload_n (pc := 182) (i := 1) dX2_joined_182 rfl rfl ?_
                                    refine ev_lload_n (pc := 183) (i := 3) dX2_joined_183 rfl rfl ?_
                                    refine ev_lor (pc := 184) dX2_joined_184 ?_
                                    exact evB_lret (pc := 185) dX2_joined_185 rfl hL
                                  · rcases ite_un hL with ⟨hx, hL⟩ | ⟨hx18, hL⟩
                                    · refine evB_tswIn (pc := 1) (tgt := 182) dX2_joined_1 hx (by decide) (by decide) rfl rfl ?_
                                      refine ev_lload_n (pc := 182) (i := 1) dX2_joined_182 rfl rfl ?_
                                      refine ev_lload_n (pc := 183) (i := 3) dX2_joined_183 rfl rfl ?_
                                      refine ev_lor (pc := 184) dX2_joined_184 ?_
                                      exact evB_lret (pc := 185) dX2_joined_185 rfl hL
                                    · rcases ite_un hL with ⟨hx, hL⟩ | ⟨hx19, hL⟩
                                      · refine evB_tswIn (pc := 1) (tgt := 182) dX2_joined_1 hx (by decide) (by decide) rfl rfl ?_
                                        refine ev_lload_n (pc := 182) (i := 1) dX2_joined_182 rfl rfl ?_
                                        refine ev_lload_n (pc := 183) (i := 3) dX2_joined_183 rfl rfl ?_
                                        refine ev_lor (pc := 184) dX2_joined_184 ?_
                                        exact evB_lret (pc := 185) dX2_joined_185 rfl hL
                                      · rcases ite_un hL with ⟨hx, hL⟩ | ⟨hx20, hL⟩
                                        · refine evB_tswIn (pc := 1) (tgt := 182) dX2_joined_1 hx (by decide) (by decide) rfl rfl ?_
                                          refine ev_lload_n (pc := 182) (i := 1) dX2_joined_182 rfl rfl ?_
                                          refine ev_lload_n (pc := 183) (i := 3) dX2_joined_183 rfl rfl ?_
                                          refine ev_lor (pc := 184) dX2_joined_184 ?_
                                          exact evB_lret (pc := 185) dX2_joined_185 rfl hL
                                        · rcases ite_un hL with ⟨hx, hL⟩ | ⟨hx21, hL⟩
                                          · refine evB_tswIn (pc := 1) (tgt := 182) dX2_joined_1 hx (by decide) (by decide) rfl rfl ?_
                                            refine ev_lload_n (pc := 182) (i := 1) dX2_joined_182 rfl rfl ?_
                                            refine ev_lload_n (pc := 183) (i := 3) dX2_joined_183 rfl rfl ?_
                                            refine ev_lor (pc := 184) dX2_joined_184 ?_
                                            exact evB_lret (pc := 185) dX2_joined_185 rfl hL
                                          · rcases ite_un hL with ⟨hx, hL⟩ | ⟨hx22, hL⟩
                                            · refine evB_tswIn (pc := 1) (tgt := 182) dX2_joined_1 hx (by decide) (by decide) rfl rfl ?_
                                              refine ev_lload_n (pc := 182) (i := 1) dX2_joined_182 rfl rfl ?_
                                              refine ev_lload_n (pc := 183) (i := 3) dX2_joined_183 rfl rfl ?_
                                              refine ev_lor (pc := 184) dX2_joined_184 ?_
                                              exact evB_lret (pc := 185) dX2_joined_185 rfl hL
                                            · rcases ite_un hL with ⟨hx, hL⟩ | ⟨hx23, hL⟩
                                              · refine evB_tswIn (pc := 1) (tgt := 154) dX2_joined_1 hx (by decide) (by decide) rfl rfl ?_
                                                refine ev_lload_n (pc := 154) (i := 1) dX2_joined_154 rfl rfl ?_
                                                refine ev_lload_n (pc := 155) (i := 3) dX2_joined_155 rfl rfl ?_
                                                refine ev_lcmp (pc := 156) dX2_joined_156 ?_
                                                refine ev_if_ge (pc := 157) (tgt := 164) dX2_joined_157 rfl hL rfl (fun hL => ?_) (fun hL => ?_)
                                                · refine ev_lconst (pc := 160) (x := 1) dX2_joined_160 rfl ?_
                                                  refine ev_goto (pc := 161) (tgt := 165) dX2_joined_161 rfl ?_
                                                  exact evB_lret (pc := 165) dX2_joined_165 rfl hL
                                                · refine ev_lconst (pc := 164) (x := 0) dX2_joined_164 rfl ?_
                                                  exact evB_lret (pc := 165) dX2_joined_165 rfl hL
                                              · rcases ite_un hL with ⟨hx, hL⟩ | ⟨hx24, hL⟩
                                                · refine evB_tswIn (pc := 1) (tgt := 142) dX2_joined_1 hx (by decide) (by decide) rfl rfl ?_
                                                  refine ev_lload_n (pc := 142) (i := 1) dX2_joined_142 rfl rfl ?_
                                                  refine ev_lload_n (pc := 143) (i := 3) dX2_joined_143 rfl rfl ?_
                                                  refine ev_lcmp (pc := 144) dX2_joined_144 ?_
                                                  refine ev_if_ne (pc := 145) (tgt := 152) dX2_joined_145 rfl hL rfl (fun hL => ?_) (fun hL => ?_)
                                                  · refine ev_lconst (pc := 148) (x := 1) dX2_joined_148 rfl ?_
                                                    refine ev_goto (pc := 149) (tgt := 153) dX2_joined_149 rfl ?_
                                                    exact evB_lret (pc := 153) dX2_joined_153 rfl hL
                                                  · refine ev_lconst (pc := 152) (x := 0) dX2_joined_152 rfl ?_
                                                    exact evB_lret (pc := 153) dX2_joined_153 rfl hL
                                                · rcases ite_un hL with ⟨hx, hL⟩ | ⟨hx25, hL⟩
                                                  · refine evB_tswIn (pc := 1) (tgt := 166) dX2_joined_1 hx (by decide) (by decide) rfl rfl ?_
                                                    refine ev_lload_n (pc := 166) (i := 1) dX2_joined_166 rfl rfl ?_
                                                    refine ev_lload_n (pc := 167) (i := 3) dX2_joined_167 rfl rfl ?_
                                                    refine ev_lcmp (pc := 168) dX2_joined_168 ?_
                                                    refine ev_if_le (pc := 169) (tgt := 176) dX2_joined_169 rfl hL rfl (fun hL => ?_) (fun hL => ?_)
                                                    · refine ev_lconst (pc := 172) (x := 1) dX2_joined_172 rfl ?_
                                                      refine ev_goto (pc := 173) (tgt := 177) dX2_joined_173 rfl ?_
                                                      exact evB_lret (pc := 177) dX2_joined_177 rfl hL
                                                    · refine ev_lconst (pc := 176) (x := 0) dX2_joined_176 rfl ?_
                                                      exact evB_lret (pc := 177) dX2_joined_177 rfl hL
                                                  · refine evB_tswOut (pc := 1) (tgt := 182) dX2_joined_1 (by omega) rfl ?_
                                                    refine ev_lload_n (pc := 182) (i := 1) dX2_joined_182 rfl rfl ?_
                                                    refine ev_lload_n (pc := 183) (i := 3) dX2_joined_183 rfl rfl ?_
                                                    refine ev_lor (pc := 184) dX2_joined_184 ?_
                                                    exact evB_lret (pc := 185) dX2_joined_185 rfl hL
set_option maxHeartbeats 1000000 in
set_option maxRecDepth 100000 in
theorem M_Lw_push {ω : Wd} {z : Nat → Prop} {h h' : Hp} {a0 a1 r : Int}  (hL : Lw_push h a0 a1 = some (r, h')) : CtB ω N_Lw_push 1 [aV ω a0, iV a1] z h none h' := by
  unfold Lw_push at hL
  refine Ct_of (lv := [some (aV ω a0), some (iV a1)]) (by decide) (Nat.le_trans (sl_1 (cat_aV _ _) (sl_1 (cat_iV _) sl_z)) (Nat.le_of_ble_eq_true rfl)) (la_1 (cat_aV _ _) (la_1 (cat_iV _) la_z)) ?_
  refine ev_aload_n (pc := 0) (i := 0) dX2_push_0 rfl rfl ?_
  obtain ⟨hs1, hL⟩ := cC_un hL
  refine ev_get (pc := 1) (c9 := 2) (k9 := 3) dX2_push_1 fl_Lw_22 (by decide) hs1 gv2_3 ?_
  refine ev_if_lt (pc := 4) (tgt := 36) dX2_push_4 rfl hL rfl (fun hL => ?_) (fun hL => ?_)
  · exact evB_vret (pc := 36) dX2_push_36 rfl hL
  · refine ev_aload_n (pc := 7) (i := 0) dX2_push_7 rfl rfl ?_
    refine ev_get (pc := 8) (c9 := 2) (k9 := 3) dX2_push_8 fl_Lw_22 (by decide) hs1 gv2_3 ?_
    refine ev_bipush (pc := 11) dX2_push_11 (by decide) ?_
    refine ev_icmp_ge (pc := 13) (tgt := 36) dX2_push_13 rfl hL rfl (fun hL => ?_) (fun hL => ?_)
    · refine ev_aload_n (pc := 16) (i := 0) dX2_push_16 rfl rfl ?_
      refine ev_get (pc := 17) (c9 := 2) (k9 := 1) dX2_push_17 fl_Lw_15 (by decide) hs1 (gv2_1 hs1) ?_
      refine ev_aload_n (pc := 20) (i := 0) dX2_push_20 rfl rfl ?_
      refine ev_get (pc := 21) (c9 := 2) (k9 := 3) dX2_push_21 fl_Lw_22 (by decide) hs1 gv2_3 ?_
      refine ev_iload_n (pc := 24) (i := 1) dX2_push_24 rfl rfl ?_
      obtain ⟨q2a, q2d, q2b, q2c, hL⟩ := cY_un hL
      refine ev_iast (pc := 25) dX2_push_25 q2a q2d q2b q2c ?_
      refine ev_puG hL (fun h3 hL => ?_)
      refine ev_aload_n (pc := 26) (i := 0) dX2_push_26 rfl rfl ?_
      refine ev_dup (pc := 27) dX2_push_27 (cat_aV _ _) ?_
      refine ev_get (pc := 28) (c9 := 2) (k9 := 3) dX2_push_28 fl_Lw_22 (by decide) hs1 gv2_3 ?_
      refine ev_iconst (pc := 31) dX2_push_31 ?_
      refine ev_iadd (pc := 32) dX2_push_32 ?_
      refine evB_putI (pc := 33) (c9 := 2) (k9 := 3) (kI := 3) dX2_push_33 fl_Lw_22 hs1 (by decide) (fun q hq => by cases hq; rfl) rfl rfl rfl ?_
      refine ev_puG hL (fun h4 hL => ?_)
      exact evB_vret (pc := 36) dX2_push_36 rfl hL
    · exact evB_vret (pc := 36) dX2_push_36 rfl hL
set_option maxHeartbeats 1000000 in
set_option maxRecDepth 100000 in
theorem M_Lw_weigh {ω : Wd} {z : Nat → Prop} {h h' : Hp} {a0 a1 a2 r : Int}  (hL : Lw_weigh h a0 a1 a2 = some (r, h')) : CtB ω N_Lw_weigh 2 [aV ω a0, iV a1, aV ω a2] z h none h' := by
  unfold Lw_weigh at hL
  refine Ct_of (lv := [some (aV ω a0), some (iV a1), some (aV ω a2), none, none, none]) (by decide) (Nat.le_trans (sl_1 (cat_aV _ _) (sl_1 (cat_iV _) (sl_1 (cat_aV _ _) sl_z))) (Nat.le_of_ble_eq_true rfl)) (la_1 (cat_aV _ _) (la_1 (cat_iV _) (la_1 (cat_aV _ _) (la_n (la_n (la_n la_z)))))) ?_
  refine ev_iload_n (pc := 0) (i := 1) dX2_weigh_0 rfl rfl ?_
  refine ev_sipush (pc := 1) dX2_weigh_1 (by decide) ?_
  refine ev_icmp_lt (pc := 4) (tgt := 19) dX2_weigh_4 rfl hL rfl (fun hL => ?_) (fun hL => ?_)
  · refine ev_iload_n (pc := 19) (i := 1) dX2_weigh_19 rfl rfl ?_
    refine ev_sipush (pc := 20) dX2_weigh_20 (by decide) ?_
    refine ev_icmp_lt (pc := 23) (tgt := 42) dX2_weigh_23 rfl hL rfl (fun hL => ?_) (fun hL => ?_)
    · refine ev_iload_n (pc := 42) (i := 1) dX2_weigh_42 rfl rfl ?_
      refine ev_bipush (pc := 43) dX2_weigh_43 (by decide) ?_
      refine ev_icmp_ne (pc := 45) (tgt := 61) dX2_weigh_45 rfl hL rfl (fun hL => ?_) (fun hL => ?_)
      · refine ev_aload_n (pc := 48) (i := 0) dX2_weigh_48 rfl rfl ?_
        refine ev_iconst (pc := 49) dX2_weigh_49 ?_
        refine ev_aload_n (pc := 50) (i := 0) dX2_weigh_50 rfl rfl ?_
        obtain ⟨hs1, hL⟩ := cC_un hL
        obtain ⟨r2, h3, hc4, hL⟩ := cl_un hL
        refine evB_callV_I (pc := 51) (M_Lw_pop hc4) dX2_weigh_51 mt_Lw_pop st_Lw_pop ml_Lw_107 hs1 (by decide) ⟨_, rfl, rfl⟩ (Nat.le_of_ble_eq_true rfl) rfl rfl (Nat.le_trans (sm_1 (cat_iV _) (sm_1 (cat_aV _ _) sm_z)) (by decide)) ?_
        refine ev_isub (pc := 54) dX2_weigh_54 ?_
        obtain ⟨r5, h6, hc7, hL⟩ := cl_un hL
        refine evB_callV_V (pc := 55) (M_Lw_push hc7) dX2_weigh_55 mt_Lw_push st_Lw_push ml_Lw_114 hs1 (by decide) ⟨_, rfl, rfl⟩ (Nat.le_of_ble_eq_true rfl) rfl rfl (Nat.le_trans sm_z (by decide)) ?_
        refine ev_goto (pc := 58) (tgt := 98) dX2_weigh_58 rfl ?_
        exact evB_vret (pc := 98) dX2_weigh_98 rfl hL
      · refine ev_aload_n (pc := 61) (i := 0) dX2_weigh_61 rfl rfl ?_
        obtain ⟨hs8, hL⟩ := cC_un hL
        obtain ⟨r9, h10, hc11, hL⟩ := cl_un hL
        refine evB_callV_I (pc := 62) (M_Lw_pop hc11) dX2_weigh_62 mt_Lw_pop st_Lw_pop ml_Lw_107 hs8 (by decide) ⟨_, rfl, rfl⟩ (Nat.le_of_ble_eq_true rfl) rfl rfl (Nat.le_trans sm_z (by decide)) ?_
        refine ev_istore_n (pc := 65) (i := 3) dX2_weigh_65 rfl (lnl_v (cat_aV _ _) rfl) (Nat.le_of_ble_eq_true rfl) ?_
        refine ev_iload_n (pc := 66) (i := 1) dX2_weigh_66 rfl rfl ?_
        refine ev_aload_n (pc := 67) (i := 0) dX2_weigh_67 rfl rfl ?_
        obtain ⟨r12, h13, hc14, hL⟩ := cl_un hL
        refine evB_callV_I (pc := 68) (M_Lw_pop hc14) dX2_weigh_68 mt_Lw_pop st_Lw_pop ml_Lw_107 hs8 (by decide) ⟨_, rfl, rfl⟩ (Nat.le_of_ble_eq_true rfl) rfl rfl (Nat.le_trans (sm_1 (cat_iV _) sm_z) (by decide)) ?_
        refine ev_i2l (pc := 71) dX2_weigh_71 ?_
        refine ev_iload_n (pc := 72) (i := 3) dX2_weigh_72 rfl rfl ?_
        refine ev_i2l (pc := 73) dX2_weigh_73 ?_
        obtain ⟨r15, h16, hc17, hL⟩ := cl_un hL
        refine evB_callS_J (pc := 74) (M_Lw_joined hc17) dX2_weigh_74 mt_Lw_joined st_Lw_joined ml_Lw_117 (Nat.le_of_ble_eq_true rfl) rfl rfl (Nat.le_trans sm_z (by decide)) ?_
        refine ev_lstore (pc := 77) dX2_weigh_77 (lnl_v rfl rfl) (Nat.le_of_ble_eq_true rfl) ?_
        refine ev_aload_n (pc := 79) (i := 0) dX2_weigh_79 rfl rfl ?_
        refine ev_ldc2 (pc := 80) (x := (-1000000)) dX2_weigh_80 w_l_Lw_121 ?_
        refine ev_ldc2 (pc := 83) (x := 1000000) dX2_weigh_83 w_l_Lw_123 ?_
        refine ev_lload (pc := 86) dX2_weigh_86 rfl ?_
        refine ev_lmin (pc := 88) dX2_weigh_88 wm_Lw_125 w_s_lmin w_i_Math w_k_lmin (Nat.le_trans (sm_2 (cat_lV _) (sm_1 (cat_aV _ _) sm_z)) (by decide)) (Nat.le_of_ble_eq_true rfl) (Nat.le_refl _) (Nat.le_refl _) ?_
        refine ev_lmax (pc := 91) dX2_weigh_91 wm_Lw_129 w_s_lmax w_i_Math w_k_lmax (Nat.le_trans (sm_1 (cat_aV _ _) sm_z) (by decide)) (Nat.le_of_ble_eq_true rfl) (Nat.le_refl _) (Nat.le_refl _) ?_
        refine ev_l2i (pc := 94) dX2_weigh_94 ?_
        obtain ⟨r18, h19, hc20, hL⟩ := cl_un hL
        refine evB_callV_V (pc := 95) (M_Lw_push hc20) dX2_weigh_95 mt_Lw_push st_Lw_push ml_Lw_114 hs8 (by decide) ⟨_, rfl, rfl⟩ (Nat.le_of_ble_eq_true rfl) rfl rfl (Nat.le_trans sm_z (by decide)) ?_
        exact evB_vret (pc := 98) dX2_weigh_98 rfl hL
    · refine ev_aload_n (pc := 26) (i := 0) dX2_weigh_26 rfl rfl ?_
      refine ev_aload_n (pc := 27) (i := 2) dX2_weigh_27 rfl rfl ?_
      refine ev_iload_n (pc := 28) (i := 1) dX2_weigh_28 rfl rfl ?_
      refine ev_sipush (pc := 29) dX2_weigh_29 (by decide) ?_
      refine ev_isub (pc := 32) dX2_weigh_32 ?_
      obtain ⟨r21, h22, hc23, hL⟩ := cl_un hL
      refine evB_callS_I (pc := 33) (M_Cc_at hc23) dX2_weigh_33 mt_Cc_at st_Cc_at ml_Lw_99 (Nat.le_of_ble_eq_true rfl) rfl rfl (Nat.le_trans (sm_1 (cat_aV _ _) sm_z) (by decide)) ?_
      obtain ⟨hs24, hL⟩ := cC_un hL
      obtain ⟨r25, h26, hc27, hL⟩ := cl_un hL
      refine evB_callV_V (pc := 36) (M_Lw_push hc27) dX2_weigh_36 mt_Lw_push st_Lw_push ml_Lw_114 hs24 (by decide) ⟨_, rfl, rfl⟩ (Nat.le_of_ble_eq_true rfl) rfl rfl (Nat.le_trans sm_z (by decide)) ?_
      refine ev_goto (pc := 39) (tgt := 98) dX2_weigh_39 rfl ?_
      exact evB_vret (pc := 98) dX2_weigh_98 rfl hL
  · refine ev_aload_n (pc := 7) (i := 0) dX2_weigh_7 rfl rfl ?_
    refine ev_iload_n (pc := 8) (i := 1) dX2_weigh_8 rfl rfl ?_
    refine ev_sipush (pc := 9) dX2_weigh_9 (by decide) ?_
    refine ev_isub (pc := 12) dX2_weigh_12 ?_
    obtain ⟨hs28, hL⟩ := cC_un hL
    obtain ⟨r29, h30, hc31, hL⟩ := cl_un hL
    refine evB_callV_V (pc := 13) (M_Lw_push hc31) dX2_weigh_13 mt_Lw_push st_Lw_push ml_Lw_114 hs28 (by decide) ⟨_, rfl, rfl⟩ (Nat.le_of_ble_eq_true rfl) rfl rfl (Nat.le_trans sm_z (by decide)) ?_
    refine ev_goto (pc := 16) (tgt := 98) dX2_weigh_16 rfl ?_
    exact evB_vret (pc := 98) dX2_weigh_98 rfl hL
set_option maxHeartbeats 1000000 in
set_option maxRecDepth 100000 in
theorem KLw_worth_b75 {ω : Wd} {z : Nat → Prop} {k9 : Hp × Int × Int × Int × Int → Option (Int × Hp)} {h h' : Hp} {x0 x1 x2 x3 x4 r : Int} (hk9 : ∀ s o, k9 s = some o → EvB ω N_Lw_worth 3 (QB (some (iV o.1)) z o.2) z s.1 9 [some (aV ω s.2.1), some (aV ω s.2.2.1), some (iV s.2.2.2.1), some (iV s.2.2.2.2), none] []) (hL : Lw_worth_b75 k9 h x0 x1 x2 x3 x4 = some (r, h')) : EvB ω N_Lw_worth 3 (QB (some (iV r)) z h') z h 75 [some (aV ω x0), some (aV ω x1), some (iV x2), some (iV x3), some (iV x4)] [] := by
  unfold Lw_worth_b75 at hL
  refine ev_iload_n (pc := 75) (i := 2) dX2_worth_75 rfl rfl ?_
  refine ev_if_ne (pc := 76) (tgt := 86) dX2_worth_76 rfl hL rfl (fun hL => ?_) (fun hL => ?_)
  · refine ev_aload_n (pc := 79) (i := 0) dX2_worth_79 rfl rfl ?_
    refine ev_iload (pc := 80) dX2_worth_80 rfl ?_
    refine ev_aload_n (pc := 82) (i := 1) dX2_worth_82 rfl rfl ?_
    obtain ⟨hs13, hL⟩ := cC_un hL
    obtain ⟨r14, h15, hc16, hL⟩ := cl_un hL
    refine evB_callV_V (pc := 83) (M_Lw_weigh hc16) dX2_worth_83 mt_Lw_weigh st_Lw_weigh ml_Lw_110 hs13 (by decide) ⟨_, rfl, rfl⟩ (Nat.le_of_ble_eq_true rfl) rfl rfl (Nat.le_trans sm_z (by decide)) ?_
    refine ev_iinc (pc := 86) dX2_worth_86 rfl (lnl_v rfl rfl) (Nat.le_of_ble_eq_true rfl) ?_
    refine ev_goto (pc := 89) (tgt := 9) dX2_worth_89 rfl ?_
    exact ev_le (lvle_s (lvle_s (lvle_s (lvle_s (lvle_n lvle_z))))) (hk9 _ _ hL)
  · refine ev_iinc (pc := 86) dX2_worth_86 rfl (lnl_v rfl rfl) (Nat.le_of_ble_eq_true rfl) ?_
    refine ev_goto (pc := 89) (tgt := 9) dX2_worth_89 rfl ?_
    exact ev_le (lvle_s (lvle_s (lvle_s (lvle_s (lvle_n lvle_z))))) (hk9 _ _ hL)
set_option maxHeartbeats 1000000 in
set_option maxRecDepth 100000 in
theorem KLw_worth_b9_body {ω : Wd} {z : Nat → Prop}  {k9 : Hp × Int × Int × Int × Int → Option (Int × Hp)} {h h' : Hp} {x0 x1 x2 x3 r : Int}  (hk9 : ∀ s o, k9 s = some o → EvB ω N_Lw_worth 3 (QB (some (iV o.1)) z o.2) z s.1 9 [some (aV ω s.2.1), some (aV ω s.2.2.1), some (iV s.2.2.2.1), some (iV s.2.2.2.2), none] []) (hL : Lw_worth_b9_body  k9 h x0 x1 x2 x3 = some (r, h')) : EvB ω N_Lw_worth 3 (QB (some (iV r)) z h') z h 9 [some (aV ω x0), some (aV ω x1), some (iV x2), some (iV x3), none] [] := by
  unfold Lw_worth_b9_body at hL
  refine ev_iload_n (pc := 9) (i := 3) dX2_worth_9 rfl rfl ?_
  refine ev_aload_n (pc := 10) (i := 0) dX2_worth_10 rfl rfl ?_
  obtain ⟨hs3, hL⟩ := cC_un hL
  refine ev_get (pc := 11) (c9 := 2) (k9 := 2) dX2_worth_11 fl_Lw_18 (by decide) hs3 gv2_2 ?_
  refine ev_icmp_ge (pc := 14) (tgt := 92) dX2_worth_14 rfl hL rfl (fun hL => ?_) (fun hL => ?_)
  · refine ev_aload_n (pc := 17) (i := 0) dX2_worth_17 rfl rfl ?_
    refine ev_get (pc := 18) (c9 := 2) (k9 := 0) dX2_worth_18 fl_Lw_11 (by decide) hs3 (gv2_0 hs3) ?_
    refine ev_iload_n (pc := 21) (i := 3) dX2_worth_21 rfl rfl ?_
    obtain ⟨r4, h5, hc6, hL⟩ := cl_un hL
    refine evB_callS_I (pc := 22) (M_Cc_at hc6) dX2_worth_22 mt_Cc_at st_Cc_at ml_Lw_99 (Nat.le_of_ble_eq_true rfl) rfl rfl (Nat.le_trans sm_z (by decide)) ?_
    refine ev_istore (pc := 25) dX2_worth_25 (lnl_v rfl rfl) (Nat.le_of_ble_eq_true rfl) ?_
    refine ev_iload (pc := 27) dX2_worth_27 rfl ?_
    refine ev_bipush (pc := 29) dX2_worth_29 (by decide) ?_
    refine ev_icmp_ne (pc := 31) (tgt := 48) dX2_worth_31 rfl hL rfl (fun hL => ?_) (fun hL => ?_)
    · refine ev_iload_n (pc := 34) (i := 2) dX2_worth_34 rfl rfl ?_
      refine ev_if_ne (pc := 35) (tgt := 43) dX2_worth_35 rfl hL rfl (fun hL => ?_) (fun hL => ?_)
      · refine ev_aload_n (pc := 38) (i := 0) dX2_worth_38 rfl rfl ?_
        obtain ⟨r7, h8, hc9, hL⟩ := cl_un hL
        refine evB_callV_I (pc := 39) (M_Lw_pop hc9) dX2_worth_39 mt_Lw_pop st_Lw_pop ml_Lw_107 hs3 (by decide) ⟨_, rfl, rfl⟩ (Nat.le_of_ble_eq_true rfl) rfl rfl (Nat.le_trans sm_z (by decide)) ?_
        exact evB_iret (pc := 42) dX2_worth_42 rfl hL
      · refine ev_iconst (pc := 43) dX2_worth_43 ?_
        refine ev_istore_n (pc := 44) (i := 2) dX2_worth_44 rfl (lnl_v (cat_aV _ _) rfl) (Nat.le_of_ble_eq_true rfl) ?_
        refine ev_goto (pc := 45) (tgt := 86) dX2_worth_45 rfl ?_
        refine ev_iinc (pc := 86) dX2_worth_86 rfl (lnl_v rfl rfl) (Nat.le_of_ble_eq_true rfl) ?_
        refine ev_goto (pc := 89) (tgt := 9) dX2_worth_89 rfl ?_
        exact ev_le (lvle_s (lvle_s (lvle_s (lvle_s (lvle_n lvle_z))))) (hk9 _ _ hL)
    · refine ev_iload_n (pc := 48) (i := 2) dX2_worth_48 rfl rfl ?_
      refine ev_if_ne (pc := 49) (tgt := 75) dX2_worth_49 rfl hL rfl (fun hL => ?_) (fun hL => ?_)
      · refine ev_iload (pc := 52) dX2_worth_52 rfl ?_
        refine ev_bipush (pc := 54) dX2_worth_54 (by decide) ?_
        refine ev_icmp_ne (pc := 56) (tgt := 75) dX2_worth_56 rfl hL rfl (fun hL => ?_) (fun hL => ?_)
        · refine ev_aload_n (pc := 59) (i := 0) dX2_worth_59 rfl rfl ?_
          obtain ⟨r10, h11, hc12, hL⟩ := cl_un hL
          refine evB_callV_I (pc := 60) (M_Lw_pop hc12) dX2_worth_60 mt_Lw_pop st_Lw_pop ml_Lw_107 hs3 (by decide) ⟨_, rfl, rfl⟩ (Nat.le_of_ble_eq_true rfl) rfl rfl (Nat.le_trans sm_z (by decide)) ?_
          refine ev_if_ne (pc := 63) (tgt := 70) dX2_worth_63 rfl hL rfl (fun hL => ?_) (fun hL => ?_)
          · refine ev_iconst (pc := 66) dX2_worth_66 ?_
            refine ev_goto (pc := 67) (tgt := 71) dX2_worth_67 rfl ?_
            refine ev_istore_n (pc := 71) (i := 2) dX2_worth_71 rfl (lnl_v (cat_aV _ _) rfl) (Nat.le_of_ble_eq_true rfl) ?_
            refine ev_goto (pc := 72) (tgt := 86) dX2_worth_72 rfl ?_
            refine ev_iinc (pc := 86) dX2_worth_86 rfl (lnl_v rfl rfl) (Nat.le_of_ble_eq_true rfl) ?_
            refine ev_goto (pc := 89) (tgt := 9) dX2_worth_89 rfl ?_
            exact ev_le (lvle_s (lvle_s (lvle_s (lvle_s (lvle_n lvle_z))))) (hk9 _ _ hL)
          · refine ev_iconst (pc := 70) dX2_worth_70 ?_
            refine ev_istore_n (pc := 71) (i := 2) dX2_worth_71 rfl (lnl_v (cat_aV _ _) rfl) (Nat.le_of_ble_eq_true rfl) ?_
            refine ev_goto (pc := 72) (tgt := 86) dX2_worth_72 rfl ?_
            refine ev_iinc (pc := 86) dX2_worth_86 rfl (lnl_v rfl rfl) (Nat.le_of_ble_eq_true rfl) ?_
            refine ev_goto (pc := 89) (tgt := 9) dX2_worth_89 rfl ?_
            exact ev_le (lvle_s (lvle_s (lvle_s (lvle_s (lvle_n lvle_z))))) (hk9 _ _ hL)
        · exact ev_le (lvle_s (lvle_s (lvle_s (lvle_s (lvle_s lvle_z))))) (KLw_worth_b75 hk9 hL)
      · exact ev_le (lvle_s (lvle_s (lvle_s (lvle_s (lvle_s lvle_z))))) (KLw_worth_b75 hk9 hL)
  · refine ev_iconst (pc := 92) dX2_worth_92 ?_
    exact evB_iret (pc := 93) dX2_worth_93 rfl hL
set_option maxHeartbeats 1000000 in
set_option maxRecDepth 100000 in
theorem KLw_worth_b9 {ω : Wd} {z : Nat → Prop}  {h h' : Hp} {x0 x1 x2 x3 r : Int}  (hL : Lw_worth_b9 h x0 x1 x2 x3 = some (r, h')) : EvB ω N_Lw_worth 3 (QB (some (iV r)) z h') z h 9 [some (aV ω x0), some (aV ω x1), some (iV x2), some (iV x3), none] [] := by
  unfold Lw_worth_b9 at hL
  refine itr_link (P := fun (s : Hp × Int × Int × Int × Int) (o : Int × Hp) => EvB ω N_Lw_worth 3 (QB (some (iV o.1)) z o.2) z s.1 9 [some (aV ω s.2.1), some (aV ω s.2.2.1), some (iV s.2.2.2.1), some (iV s.2.2.2.2), none] []) ?_ _ _ _ hL
  intro k hk s o h9
  have h10 := KLw_worth_b9_body (ω := ω) (z := z) (k9 := k) (h := s.1) (x0 := s.2.1) (x1 := s.2.2.1) (x2 := s.2.2.2.1) (x3 := s.2.2.2.2) (r := o.1) (h' := o.2) 
  exact h10 hk h9
set_option maxHeartbeats 1000000 in
set_option maxRecDepth 100000 in
theorem M_Lw_worth {ω : Wd} {z : Nat → Prop} {h h' : Hp} {a0 a1 r : Int}  (hL : Lw_worth h a0 a1 = some (r, h')) : CtB ω N_Lw_worth 3 [aV ω a0, aV ω a1] z h (some (iV r)) h' := by
  unfold Lw_worth at hL
  refine Ct_of (lv := [some (aV ω a0), some (aV ω a1), none, none, none]) (by decide) (Nat.le_trans (sl_1 (cat_aV _ _) (sl_1 (cat_aV _ _) sl_z)) (Nat.le_of_ble_eq_true rfl)) (la_1 (cat_aV _ _) (la_1 (cat_aV _ _) (la_n (la_n (la_n la_z))))) ?_
  refine ev_iconst (pc := 0) dX2_worth_0 ?_
  refine ev_istore_n (pc := 1) (i := 2) dX2_worth_1 rfl (lnl_v (cat_aV _ _) rfl) (Nat.le_of_ble_eq_true rfl) ?_
  refine ev_aload_n (pc := 2) (i := 0) dX2_worth_2 rfl rfl ?_
  refine ev_iconst (pc := 3) dX2_worth_3 ?_
  obtain ⟨hs1, hL⟩ := cC_un hL
  refine evB_putI (pc := 4) (c9 := 2) (k9 := 3) (kI := 3) dX2_worth_4 fl_Lw_22 hs1 (by decide) (fun q hq => by cases hq; rfl) rfl rfl rfl ?_
  refine ev_puG hL (fun h2 hL => ?_)
  refine ev_iconst (pc := 7) dX2_worth_7 ?_
  refine ev_istore_n (pc := 8) (i := 3) dX2_worth_8 rfl (lnl_v rfl rfl) (Nat.le_of_ble_eq_true rfl) ?_
  exact ev_le (lvle_s (lvle_s (lvle_s (lvle_s (lvle_n lvle_z))))) (KLw_worth_b9  hL)
set_option maxHeartbeats 1000000 in
set_option maxRecDepth 100000 in
theorem KCc_worthBy_b139 {ω : Wd} {z : Nat → Prop}  {h h' : Hp} {x0 x5 r : Int}  (hL : Cc_worthBy_b139 h x0 x5 = some (r, h')) : EvB ω N_Cc_worthBy 4 (QB (some (iV r)) z h') z h 139 [some (aV ω x0), none, none, none, none, some (iV x5)] [] := by
  unfold Cc_worthBy_b139 at hL
  refine ev_iconst (pc := 139) dX9_worthBy_139 ?_
  refine ev_iload (pc := 140) dX9_worthBy_140 rfl ?_
  refine ev_aload_n (pc := 142) (i := 0) dX9_worthBy_142 rfl rfl ?_
  obtain ⟨hs11, hL⟩ := cC_un hL
  refine ev_get (pc := 143) (c9 := 9) (k9 := 1) dX9_worthBy_143 fl_Cc_19 (by decide) hs11 gv9_1 ?_
  obtain ⟨hs12, hL⟩ := cC_un hL
  obtain ⟨r13, h14, hc15, hL⟩ := cl_un hL
  refine evB_callV_I (pc := 146) (M_Cy_mostWorth hc15) dX9_worthBy_146 mt_Cy_mostWorth st_Cy_mostWorth ml_Cc_392 hs12 (by decide) ⟨_, rfl, rfl⟩ (Nat.le_of_ble_eq_true rfl) rfl rfl (Nat.le_trans (sm_1 (cat_iV _) (sm_1 (cat_iV _) sm_z)) (by decide)) ?_
  refine ev_min (pc := 149) dX9_worthBy_149 wm_Cc_415 w_s_min w_i_Math w_k_min (Nat.le_trans (sm_1 (cat_iV _) sm_z) (by decide)) (Nat.le_of_ble_eq_true rfl) (Nat.le_refl _) (Nat.le_refl _) ?_
  refine ev_max (pc := 152) dX9_worthBy_152 wm_Cc_292 w_s_max w_i_Math w_k_max (Nat.le_trans sm_z (by decide)) (Nat.le_of_ble_eq_true rfl) (Nat.le_refl _) (Nat.le_refl _) ?_
  exact evB_iret (pc := 155) dX9_worthBy_155 rfl hL
set_option maxHeartbeats 1000000 in
set_option maxRecDepth 100000 in
theorem M_Cc_worthBy {ω : Wd} {z : Nat → Prop} {h h' : Hp} {a0 a1 a2 a3 a4 r : Int}  (hL : Cc_worthBy h a0 a1 a2 a3 a4 = some (r, h')) : CtB ω N_Cc_worthBy 4 [aV ω a0, aV ω a1, iV a2, iV a3, iV a4] z h (some (iV r)) h' := by
  unfold Cc_worthBy at hL
  refine Ct_of (lv := [some (aV ω a0), some (aV ω a1), some (iV a2), some (iV a3), some (iV a4), none]) (by decide) (Nat.le_trans (sl_1 (cat_aV _ _) (sl_1 (cat_aV _ _) (sl_1 (cat_iV _) (sl_1 (cat_iV _) (sl_1 (cat_iV _) sl_z))))) (Nat.le_of_ble_eq_true rfl)) (la_1 (cat_aV _ _) (la_1 (cat_aV _ _) (la_1 (cat_iV _) (la_1 (cat_iV _) (la_1 (cat_iV _) (la_n la_z)))))) ?_
  refine ev_aload_n (pc := 0) (i := 0) dX9_worthBy_0 rfl rfl ?_
  obtain ⟨hs1, hL⟩ := cC_un hL
  refine ev_get (pc := 1) (c9 := 9) (k9 := 6) dX9_worthBy_1 fl_Cc_42 (by decide) hs1 gv9_6 ?_
  refine ev_iconst (pc := 4) dX9_worthBy_4 ?_
  refine ev_icmp_ne (pc := 5) (tgt := 34) dX9_worthBy_5 rfl hL rfl (fun hL => ?_) (fun hL => ?_)
  · refine ev_iconst (pc := 8) dX9_worthBy_8 ?_
    refine ev_iload (pc := 9) dX9_worthBy_9 rfl ?_
    refine ev_imul (pc := 11) dX9_worthBy_11 ?_
    refine ev_aload_n (pc := 12) (i := 0) dX9_worthBy_12 rfl rfl ?_
    refine ev_get (pc := 13) (c9 := 9) (k9 := 1) dX9_worthBy_13 fl_Cc_19 (by decide) hs1 gv9_1 ?_
    refine ev_iload_n (pc := 16) (i := 2) dX9_worthBy_16 rfl rfl ?_
    obtain ⟨hs2, hL⟩ := cC_un hL
    obtain ⟨r3, h4, hc5, hL⟩ := cl_un hL
    refine evB_callV_I (pc := 17) (M_Cy_hardOf hc5) dX9_worthBy_17 mt_Cy_hardOf st_Cy_hardOf ml_Cc_148 hs2 (by decide) ⟨_, rfl, rfl⟩ (Nat.le_of_ble_eq_true rfl) rfl rfl (Nat.le_trans (sm_1 (cat_iV _) sm_z) (by decide)) ?_
    refine ev_iadd (pc := 20) dX9_worthBy_20 ?_
    refine ev_aload_n (pc := 21) (i := 1) dX9_worthBy_21 rfl rfl ?_
    refine ev_iload_n (pc := 22) (i := 3) dX9_worthBy_22 rfl rfl ?_
    obtain ⟨hs6, hL⟩ := cC_un hL
    obtain ⟨r7, h8, hc9, hL⟩ := cl_un hL
    refine evB_callV_I (pc := 23) (M_St_lonelyOf hc9) dX9_worthBy_23 mt_St_lonelyOf st_St_lonelyOf ml_Cc_142 hs6 (by decide) ⟨_, rfl, rfl⟩ (Nat.le_of_ble_eq_true rfl) rfl rfl (Nat.le_trans (sm_1 (cat_iV _) sm_z) (by decide)) ?_
    refine ev_iconst (pc := 26) dX9_worthBy_26 ?_
    refine ev_idiv (pc := 27) dX9_worthBy_27 hL (fun hL => ?_)
    refine ev_isub (pc := 28) dX9_worthBy_28 ?_
    refine ev_bdI hL (fun v10 hL => ?_)
    refine ev_istore (pc := 29) dX9_worthBy_29 (lnl_v rfl rfl) (Nat.le_of_ble_eq_true rfl) ?_
    refine ev_goto (pc := 31) (tgt := 139) dX9_worthBy_31 rfl ?_
    exact ev_le (lvle_s (lvle_n (lvle_n (lvle_n (lvle_n (lvle_s lvle_z)))))) (KCc_worthBy_b139  hL)
  · refine ev_aload_n (pc := 34) (i := 0) dX9_worthBy_34 rfl rfl ?_
    refine ev_get (pc := 35) (c9 := 9) (k9 := 18) dX9_worthBy_35 fl_Cc_100 (by decide) hs1 (gv9_18 hs1) ?_
    refine ev_iconst (pc := 38) dX9_worthBy_38 ?_
    refine ev_iload (pc := 39) dX9_worthBy_39 rfl ?_
    obtain ⟨r16, h17, hc18, hL⟩ := cl_un hL
    refine evB_callS_V (pc := 41) (M_Cc_put hc18) dX9_worthBy_41 mt_Cc_put st_Cc_put ml_Cc_219 (Nat.le_of_ble_eq_true rfl) rfl rfl (Nat.le_trans sm_z (by decide)) ?_
    refine ev_aload_n (pc := 44) (i := 0) dX9_worthBy_44 rfl rfl ?_
    refine ev_get (pc := 45) (c9 := 9) (k9 := 18) dX9_worthBy_45 fl_Cc_100 (by decide) hs1 (gv9_18 hs1) ?_
    refine ev_iconst (pc := 48) dX9_worthBy_48 ?_
    refine ev_aload_n (pc := 49) (i := 0) dX9_worthBy_49 rfl rfl ?_
    refine ev_get (pc := 50) (c9 := 9) (k9 := 1) dX9_worthBy_50 fl_Cc_19 (by decide) hs1 gv9_1 ?_
    refine ev_iload_n (pc := 53) (i := 2) dX9_worthBy_53 rfl rfl ?_
    obtain ⟨hs19, hL⟩ := cC_un hL
    obtain ⟨r20, h21, hc22, hL⟩ := cl_un hL
    refine evB_callV_I (pc := 54) (M_Cy_hardOf hc22) dX9_worthBy_54 mt_Cy_hardOf st_Cy_hardOf ml_Cc_148 hs19 (by decide) ⟨_, rfl, rfl⟩ (Nat.le_of_ble_eq_true rfl) rfl rfl (Nat.le_trans (sm_1 (cat_iV _) (sm_1 (cat_aV _ _) sm_z)) (by decide)) ?_
    obtain ⟨r23, h24, hc25, hL⟩ := cl_un hL
    refine evB_callS_V (pc := 57) (M_Cc_put hc25) dX9_worthBy_57 mt_Cc_put st_Cc_put ml_Cc_219 (Nat.le_of_ble_eq_true rfl) rfl rfl (Nat.le_trans sm_z (by decide)) ?_
    refine ev_aload_n (pc := 60) (i := 0) dX9_worthBy_60 rfl rfl ?_
    refine ev_get (pc := 61) (c9 := 9) (k9 := 18) dX9_worthBy_61 fl_Cc_100 (by decide) hs1 (gv9_18 hs1) ?_
    refine ev_iconst (pc := 64) dX9_worthBy_64 ?_
    refine ev_aload_n (pc := 65) (i := 1) dX9_worthBy_65 rfl rfl ?_
    refine ev_iload_n (pc := 66) (i := 3) dX9_worthBy_66 rfl rfl ?_
    obtain ⟨hs26, hL⟩ := cC_un hL
    obtain ⟨r27, h28, hc29, hL⟩ := cl_un hL
    refine evB_callV_I (pc := 67) (M_St_lonelyOf hc29) dX9_worthBy_67 mt_St_lonelyOf st_St_lonelyOf ml_Cc_142 hs26 (by decide) ⟨_, rfl, rfl⟩ (Nat.le_of_ble_eq_true rfl) rfl rfl (Nat.le_trans (sm_1 (cat_iV _) (sm_1 (cat_aV _ _) sm_z)) (by decide)) ?_
    obtain ⟨r30, h31, hc32, hL⟩ := cl_un hL
    refine evB_callS_V (pc := 70) (M_Cc_put hc32) dX9_worthBy_70 mt_Cc_put st_Cc_put ml_Cc_219 (Nat.le_of_ble_eq_true rfl) rfl rfl (Nat.le_trans sm_z (by decide)) ?_
    refine ev_aload_n (pc := 73) (i := 0) dX9_worthBy_73 rfl rfl ?_
    refine ev_get (pc := 74) (c9 := 9) (k9 := 18) dX9_worthBy_74 fl_Cc_100 (by decide) hs1 (gv9_18 hs1) ?_
    refine ev_iconst (pc := 77) dX9_worthBy_77 ?_
    refine ev_aload_n (pc := 78) (i := 1) dX9_worthBy_78 rfl rfl ?_
    refine ev_iload_n (pc := 79) (i := 3) dX9_worthBy_79 rfl rfl ?_
    obtain ⟨r33, h34, hc35, hL⟩ := cl_un hL
    refine evB_callV_I (pc := 80) (M_St_boreOf hc35) dX9_worthBy_80 mt_St_boreOf st_St_boreOf ml_Cc_145 hs26 (by decide) ⟨_, rfl, rfl⟩ (Nat.le_of_ble_eq_true rfl) rfl rfl (Nat.le_trans (sm_1 (cat_iV _) (sm_1 (cat_aV _ _) sm_z)) (by decide)) ?_
    obtain ⟨r36, h37, hc38, hL⟩ := cl_un hL
    refine evB_callS_V (pc := 83) (M_Cc_put hc38) dX9_worthBy_83 mt_Cc_put st_Cc_put ml_Cc_219 (Nat.le_of_ble_eq_true rfl) rfl rfl (Nat.le_trans sm_z (by decide)) ?_
    refine ev_aload_n (pc := 86) (i := 0) dX9_worthBy_86 rfl rfl ?_
    refine ev_get (pc := 87) (c9 := 9) (k9 := 18) dX9_worthBy_87 fl_Cc_100 (by decide) hs1 (gv9_18 hs1) ?_
    refine ev_iconst (pc := 90) dX9_worthBy_90 ?_
    refine ev_aload_n (pc := 91) (i := 0) dX9_worthBy_91 rfl rfl ?_
    refine ev_get (pc := 92) (c9 := 9) (k9 := 1) dX9_worthBy_92 fl_Cc_19 (by decide) hs1 gv9_1 ?_
    refine ev_iload_n (pc := 95) (i := 2) dX9_worthBy_95 rfl rfl ?_
    obtain ⟨hs39, hL⟩ := cC_un hL
    obtain ⟨r40, h41, hc42, hL⟩ := cl_un hL
    refine evB_callV_I (pc := 96) (M_Cy_wrongsBy hc42) dX9_worthBy_96 mt_Cy_wrongsBy st_Cy_wrongsBy ml_Cc_374 hs39 (by decide) ⟨_, rfl, rfl⟩ (Nat.le_of_ble_eq_true rfl) rfl rfl (Nat.le_trans (sm_1 (cat_iV _) (sm_1 (cat_aV _ _) sm_z)) (by decide)) ?_
    refine ev_aload_n (pc := 99) (i := 1) dX9_worthBy_99 rfl rfl ?_
    refine ev_get (pc := 100) (c9 := 7) (k9 := 5) dX9_worthBy_100 fl_Cc_362 (by decide) hs26 gv7_5 ?_
    refine ev_iand (pc := 103) dX9_worthBy_103 ?_
    obtain ⟨r43, h44, hc45, hL⟩ := cl_un hL
    refine evB_callS_I (pc := 104) (M_Ji_bitCount hc45) dX9_worthBy_104 mt_Ji_bitCount st_Ji_bitCount ml_Cc_297 (Nat.le_of_ble_eq_true rfl) rfl rfl (Nat.le_trans (sm_1 (cat_iV _) (sm_1 (cat_aV _ _) sm_z)) (by decide)) ?_
    obtain ⟨r46, h47, hc48, hL⟩ := cl_un hL
    refine evB_callS_V (pc := 107) (M_Cc_put hc48) dX9_worthBy_107 mt_Cc_put st_Cc_put ml_Cc_219 (Nat.le_of_ble_eq_true rfl) rfl rfl (Nat.le_trans sm_z (by decide)) ?_
    refine ev_aload_n (pc := 110) (i := 0) dX9_worthBy_110 rfl rfl ?_
    refine ev_get (pc := 111) (c9 := 9) (k9 := 18) dX9_worthBy_111 fl_Cc_100 (by decide) hs1 (gv9_18 hs1) ?_
    refine ev_iconst (pc := 114) dX9_worthBy_114 ?_
    refine ev_aload_n (pc := 115) (i := 1) dX9_worthBy_115 rfl rfl ?_
    refine ev_get (pc := 116) (c9 := 7) (k9 := 8) dX9_worthBy_116 fl_Cc_227 (by decide) hs26 gv7_8 ?_
    obtain ⟨r49, h50, hc51, hL⟩ := cl_un hL
    refine evB_callS_V (pc := 119) (M_Cc_put hc51) dX9_worthBy_119 mt_Cc_put st_Cc_put ml_Cc_219 (Nat.le_of_ble_eq_true rfl) rfl rfl (Nat.le_trans sm_z (by decide)) ?_
    refine ev_aload_n (pc := 122) (i := 0) dX9_worthBy_122 rfl rfl ?_
    refine ev_aload_n (pc := 123) (i := 0) dX9_worthBy_123 rfl rfl ?_
    refine ev_get (pc := 124) (c9 := 9) (k9 := 6) dX9_worthBy_124 fl_Cc_42 (by decide) hs1 gv9_6 ?_
    obtain ⟨r52, h53, hc54, hL⟩ := cl_un hL
    refine evB_callV_A (pc := 127) (M_Cc_lawAt hc54) dX9_worthBy_127 mt_Cc_lawAt st_Cc_lawAt ml_Cc_399 hs1 (by decide) ⟨_, rfl, rfl⟩ (Nat.le_of_ble_eq_true rfl) rfl rfl (Nat.le_trans sm_z (by decide)) ?_
    refine ev_aload_n (pc := 130) (i := 0) dX9_worthBy_130 rfl rfl ?_
    refine ev_get (pc := 131) (c9 := 9) (k9 := 18) dX9_worthBy_131 fl_Cc_100 (by decide) hs1 (gv9_18 hs1) ?_
    obtain ⟨hs55, hL⟩ := cC_un hL
    obtain ⟨r56, h57, hc58, hL⟩ := cl_un hL
    refine evB_callV_I (pc := 134) (M_Lw_worth hc58) dX9_worthBy_134 mt_Lw_worth st_Lw_worth ml_Cc_412 hs55 (by decide) ⟨_, rfl, rfl⟩ (Nat.le_of_ble_eq_true rfl) rfl rfl (Nat.le_trans sm_z (by decide)) ?_
    refine ev_istore (pc := 137) dX9_worthBy_137 (lnl_v rfl rfl) (Nat.le_of_ble_eq_true rfl) ?_
    exact ev_le (lvle_s (lvle_n (lvle_n (lvle_n (lvle_n (lvle_s lvle_z)))))) (KCc_worthBy_b139  hL)
set_option maxHeartbeats 1000000 in
set_option maxRecDepth 100000 in
theorem M_Cy_whomOf {ω : Wd} {z : Nat → Prop} {h h' : Hp} {a0 a1 r : Int}  (hL : Cy_whomOf h a0 a1 = some (r, h')) : CtB ω N_Cy_whomOf 2 [aV ω a0, iV a1] z h (some (iV r)) h' := by
  unfold Cy_whomOf at hL
  refine Ct_of (lv := [some (aV ω a0), some (iV a1)]) (by decide) (Nat.le_trans (sl_1 (cat_aV _ _) (sl_1 (cat_iV _) sl_z)) (Nat.le_of_ble_eq_true rfl)) (la_1 (cat_aV _ _) (la_1 (cat_iV _) la_z)) ?_
  refine ev_aload_n (pc := 0) (i := 0) dX0_whomOf_0 rfl rfl ?_
  obtain ⟨hs1, hL⟩ := cC_un hL
  refine ev_get (pc := 1) (c9 := 0) (k9 := 2) dX0_whomOf_1 fl_Cy_18 (by decide) hs1 (gv0_2 hs1) ?_
  refine ev_iconst (pc := 4) dX0_whomOf_4 ?_
  refine ev_iload_n (pc := 5) (i := 1) dX0_whomOf_5 rfl rfl ?_
  refine ev_imul (pc := 6) dX0_whomOf_6 ?_
  refine ev_iconst (pc := 7) dX0_whomOf_7 ?_
  refine ev_iadd (pc := 8) dX0_whomOf_8 ?_
  obtain ⟨r2, h3, hc4, hL⟩ := cl_un hL
  refine evB_callS_I (pc := 9) (M_Cc_at hc4) dX0_whomOf_9 mt_Cc_at st_Cc_at ml_Cy_74 (Nat.le_of_ble_eq_true rfl) rfl rfl (Nat.le_trans sm_z (by decide)) ?_
  exact evB_iret (pc := 12) dX0_whomOf_12 rfl hL
set_option maxHeartbeats 1000000 in
set_option maxRecDepth 100000 in
theorem KGv_allow_b41 {ω : Wd} {z : Nat → Prop} {k2 : Hp × Int × Int × Int × Int → Option (Int × Hp)} {h h' : Hp} {x0 x1 x2 x3 y0 r : Int} (hk2 : ∀ s o, k2 s = some o → EvB ω N_Gv_allow 1 (QB (some (iV o.1)) z o.2) z s.1 2 [some (aV ω s.2.1), some (iV s.2.2.1), some (iV s.2.2.2.1), some (iV s.2.2.2.2)] []) (hL : Gv_allow_b41 k2 h x0 x1 x2 x3 y0 = some (r, h')) : EvB ω N_Gv_allow 1 (QB (some (iV r)) z h') z h 41 [some (aV ω x0), some (iV x1), some (iV x2), some (iV x3)] [iV y0] := by
  unfold Gv_allow_b41 at hL
  refine ev_aload_n (pc := 41) (i := 0) dX1_allow_41 rfl rfl ?_
  obtain ⟨hs4, hL⟩ := cC_un hL
  refine ev_get (pc := 42) (c9 := 1) (k9 := 2) dX1_allow_42 fl_Gv_18 (by decide) hs4 (gv1_2 hs4) ?_
  refine ev_iload_n (pc := 45) (i := 3) dX1_allow_45 rfl rfl ?_
  obtain ⟨q5a, q5b, q5c, hL⟩ := cX_un hL
  refine ev_zald (pc := 46) dX1_allow_46 q5a q5b q5c ?_
  refine ev_icmp_eq (pc := 47) (tgt := 52) dX1_allow_47 rfl hL rfl (fun hL => ?_) (fun hL => ?_)
  · refine ev_iinc (pc := 52) dX1_allow_52 rfl (lnl_v rfl rfl) (Nat.le_of_ble_eq_true rfl) ?_
    refine ev_goto (pc := 55) (tgt := 2) dX1_allow_55 rfl ?_
    exact ev_le (lvle_s (lvle_s (lvle_s (lvle_s lvle_z)))) (hk2 _ _ hL)
  · refine ev_iconst (pc := 50) dX1_allow_50 ?_
    exact evB_zret (pc := 51) dX1_allow_51 rfl rfl hL
set_option maxHeartbeats 1000000 in
set_option maxRecDepth 100000 in
theorem KGv_allow_b2_body {ω : Wd} {z : Nat → Prop}  {k2 : Hp × Int × Int × Int × Int → Option (Int × Hp)} {h h' : Hp} {x0 x1 x2 x3 r : Int}  (hk2 : ∀ s o, k2 s = some o → EvB ω N_Gv_allow 1 (QB (some (iV o.1)) z o.2) z s.1 2 [some (aV ω s.2.1), some (iV s.2.2.1), some (iV s.2.2.2.1), some (iV s.2.2.2.2)] []) (hL : Gv_allow_b2_body  k2 h x0 x1 x2 x3 = some (r, h')) : EvB ω N_Gv_allow 1 (QB (some (iV r)) z h') z h 2 [some (aV ω x0), some (iV x1), some (iV x2), some (iV x3)] [] := by
  unfold Gv_allow_b2_body at hL
  refine ev_iload_n (pc := 2) (i := 3) dX1_allow_2 rfl rfl ?_
  refine ev_aload_n (pc := 3) (i := 0) dX1_allow_3 rfl rfl ?_
  obtain ⟨hs1, hL⟩ := cC_un hL
  refine ev_get (pc := 4) (c9 := 1) (k9 := 4) dX1_allow_4 fl_Gv_25 (by decide) hs1 gv1_4 ?_
  refine ev_icmp_ge (pc := 7) (tgt := 58) dX1_allow_7 rfl hL rfl (fun hL => ?_) (fun hL => ?_)
  · refine ev_iload_n (pc := 10) (i := 3) dX1_allow_10 rfl rfl ?_
    refine ev_bipush (pc := 11) dX1_allow_11 (by decide) ?_
    refine ev_icmp_ge (pc := 13) (tgt := 58) dX1_allow_13 rfl hL rfl (fun hL => ?_) (fun hL => ?_)
    · refine ev_aload_n (pc := 16) (i := 0) dX1_allow_16 rfl rfl ?_
      refine ev_get (pc := 17) (c9 := 1) (k9 := 0) dX1_allow_17 fl_Gv_9 (by decide) hs1 (gv1_0 hs1) ?_
      refine ev_iload_n (pc := 20) (i := 3) dX1_allow_20 rfl rfl ?_
      obtain ⟨q2a, q2b, q2c, hL⟩ := cX_un hL
      refine ev_iald (pc := 21) dX1_allow_21 q2a q2b q2c ?_
      refine ev_iload_n (pc := 22) (i := 1) dX1_allow_22 rfl rfl ?_
      refine ev_icmp_ne (pc := 23) (tgt := 52) dX1_allow_23 rfl hL rfl (fun hL => ?_) (fun hL => ?_)
      · refine ev_iload_n (pc := 26) (i := 2) dX1_allow_26 rfl rfl ?_
        refine ev_aload_n (pc := 27) (i := 0) dX1_allow_27 rfl rfl ?_
        refine ev_get (pc := 28) (c9 := 1) (k9 := 1) dX1_allow_28 fl_Gv_15 (by decide) hs1 (gv1_1 hs1) ?_
        refine ev_iload_n (pc := 31) (i := 3) dX1_allow_31 rfl rfl ?_
        obtain ⟨q3a, q3b, q3c, hL⟩ := cX_un hL
        refine ev_iald (pc := 32) dX1_allow_32 q3a q3b q3c ?_
        refine ev_icmp_lt (pc := 33) (tgt := 40) dX1_allow_33 rfl hL rfl (fun hL => ?_) (fun hL => ?_)
        · refine ev_iconst (pc := 40) dX1_allow_40 ?_
          exact ev_le (lvle_s (lvle_s (lvle_s (lvle_s lvle_z)))) (KGv_allow_b41 hk2 hL)
        · refine ev_iconst (pc := 36) dX1_allow_36 ?_
          refine ev_goto (pc := 37) (tgt := 41) dX1_allow_37 rfl ?_
          exact ev_le (lvle_s (lvle_s (lvle_s (lvle_s lvle_z)))) (KGv_allow_b41 hk2 hL)
      · refine ev_iinc (pc := 52) dX1_allow_52 rfl (lnl_v rfl rfl) (Nat.le_of_ble_eq_true rfl) ?_
        refine ev_goto (pc := 55) (tgt := 2) dX1_allow_55 rfl ?_
        exact ev_le (lvle_s (lvle_s (lvle_s (lvle_s lvle_z)))) (hk2 _ _ hL)
    · refine ev_iconst (pc := 58) dX1_allow_58 ?_
      exact evB_zret (pc := 59) dX1_allow_59 rfl rfl hL
  · refine ev_iconst (pc := 58) dX1_allow_58 ?_
    exact evB_zret (pc := 59) dX1_allow_59 rfl rfl hL
set_option maxHeartbeats 1000000 in
set_option maxRecDepth 100000 in
theorem KGv_allow_b2 {ω : Wd} {z : Nat → Prop}  {h h' : Hp} {x0 x1 x2 x3 r : Int}  (hL : Gv_allow_b2 h x0 x1 x2 x3 = some (r, h')) : EvB ω N_Gv_allow 1 (QB (some (iV r)) z h') z h 2 [some (aV ω x0), some (iV x1), some (iV x2), some (iV x3)] [] := by
  unfold Gv_allow_b2 at hL
  refine itr_link (P := fun (s : Hp × Int × Int × Int × Int) (o : Int × Hp) => EvB ω N_Gv_allow 1 (QB (some (iV o.1)) z o.2) z s.1 2 [some (aV ω s.2.1), some (iV s.2.2.1), some (iV s.2.2.2.1), some (iV s.2.2.2.2)] []) ?_ _ _ _ hL
  intro k hk s o h9
  have h10 := KGv_allow_b2_body (ω := ω) (z := z) (k2 := k) (h := s.1) (x0 := s.2.1) (x1 := s.2.2.1) (x2 := s.2.2.2.1) (x3 := s.2.2.2.2) (r := o.1) (h' := o.2) 
  exact h10 hk h9
set_option maxHeartbeats 1000000 in
set_option maxRecDepth 100000 in
theorem M_Gv_allow {ω : Wd} {z : Nat → Prop} {h h' : Hp} {a0 a1 a2 r : Int}  (hL : Gv_allow h a0 a1 a2 = some (r, h')) : CtB ω N_Gv_allow 1 [aV ω a0, iV a1, iV a2] z h (some (iV r)) h' := by
  unfold Gv_allow at hL
  refine Ct_of (lv := [some (aV ω a0), some (iV a1), some (iV a2), none]) (by decide) (Nat.le_trans (sl_1 (cat_aV _ _) (sl_1 (cat_iV _) (sl_1 (cat_iV _) sl_z))) (Nat.le_of_ble_eq_true rfl)) (la_1 (cat_aV _ _) (la_1 (cat_iV _) (la_1 (cat_iV _) (la_n la_z)))) ?_
  refine ev_iconst (pc := 0) dX1_allow_0 ?_
  refine ev_istore_n (pc := 1) (i := 3) dX1_allow_1 rfl (lnl_v rfl rfl) (Nat.le_of_ble_eq_true rfl) ?_
  exact ev_le (lvle_s (lvle_s (lvle_s (lvle_s lvle_z)))) (KGv_allow_b2  hL)
set_option maxHeartbeats 1000000 in
set_option maxRecDepth 100000 in
theorem KCc_fit_b68 {ω : Wd} {z : Nat → Prop} {k4 : Hp × Int × Int × Int × Int → Option (Int × Hp)} {h h' : Hp} {x0 x1 x2 x3 x5 y0 y1 y2 r : Int} (hk4 : ∀ s o, k4 s = some o → EvB ω N_Cc_fit 5 (QB (some (iV o.1)) z o.2) z s.1 4 [some (aV ω s.2.1), some (iV s.2.2.1), some (iV s.2.2.2.1), some (iV s.2.2.2.2), none, none] []) (hL : Cc_fit_b68 k4 h x0 x1 x2 x3 x5 y0 y1 y2 = some (r, h')) : EvB ω N_Cc_fit 5 (QB (some (iV r)) z h') z h 68 [some (aV ω x0), some (iV x1), some (iV x2), some (iV x3), none, some (iV x5)] [iV y2, iV y1, aV ω y0] := by
  unfold Cc_fit_b68 at hL
  obtain ⟨r17, h18, hc19, hL⟩ := cl_un hL
  refine evB_callS_V (pc := 68) (M_Cc_put hc19) dX9_fit_68 mt_Cc_put st_Cc_put ml_Cc_219 (Nat.le_of_ble_eq_true rfl) rfl rfl (Nat.le_trans sm_z (by decide)) ?_
  refine ev_iload_n (pc := 71) (i := 2) dX9_fit_71 rfl rfl ?_
  refine ev_iload (pc := 72) dX9_fit_72 rfl ?_
  refine ev_if_eq (pc := 74) (tgt := 81) dX9_fit_74 rfl hL rfl (fun hL => ?_) (fun hL => ?_)
  · refine ev_iconst (pc := 81) dX9_fit_81 ?_
    refine ev_iadd (pc := 82) dX9_fit_82 ?_
    refine ev_bdI hL (fun v20 hL => ?_)
    refine ev_istore_n (pc := 83) (i := 2) dX9_fit_83 rfl (lnl_v rfl rfl) (Nat.le_of_ble_eq_true rfl) ?_
    refine ev_iinc (pc := 84) dX9_fit_84 rfl (lnl_v rfl rfl) (Nat.le_of_ble_eq_true rfl) ?_
    refine ev_goto (pc := 87) (tgt := 4) dX9_fit_87 rfl ?_
    exact ev_le (lvle_s (lvle_s (lvle_s (lvle_s (lvle_n (lvle_n lvle_z)))))) (hk4 _ _ hL)
  · refine ev_iconst (pc := 77) dX9_fit_77 ?_
    refine ev_goto (pc := 78) (tgt := 82) dX9_fit_78 rfl ?_
    refine ev_iadd (pc := 82) dX9_fit_82 ?_
    refine ev_bdI hL (fun v21 hL => ?_)
    refine ev_istore_n (pc := 83) (i := 2) dX9_fit_83 rfl (lnl_v rfl rfl) (Nat.le_of_ble_eq_true rfl) ?_
    refine ev_iinc (pc := 84) dX9_fit_84 rfl (lnl_v rfl rfl) (Nat.le_of_ble_eq_true rfl) ?_
    refine ev_goto (pc := 87) (tgt := 4) dX9_fit_87 rfl ?_
    exact ev_le (lvle_s (lvle_s (lvle_s (lvle_s (lvle_n (lvle_n lvle_z)))))) (hk4 _ _ hL)
set_option maxHeartbeats 1000000 in
set_option maxRecDepth 100000 in
theorem KCc_fit_b4_body {ω : Wd} {z : Nat → Prop}  {k4 : Hp × Int × Int × Int × Int → Option (Int × Hp)} {h h' : Hp} {x0 x1 x2 x3 r : Int}  (hk4 : ∀ s o, k4 s = some o → EvB ω N_Cc_fit 5 (QB (some (iV o.1)) z o.2) z s.1 4 [some (aV ω s.2.1), some (iV s.2.2.1), some (iV s.2.2.2.1), some (iV s.2.2.2.2), none, none] []) (hL : Cc_fit_b4_body  k4 h x0 x1 x2 x3 = some (r, h')) : EvB ω N_Cc_fit 5 (QB (some (iV r)) z h') z h 4 [some (aV ω x0), some (iV x1), some (iV x2), some (iV x3), none, none] [] := by
  unfold Cc_fit_b4_body at hL
  refine ev_iload_n (pc := 4) (i := 3) dX9_fit_4 rfl rfl ?_
  refine ev_bipush (pc := 5) dX9_fit_5 (by decide) ?_
  refine ev_icmp_gt (pc := 7) (tgt := 90) dX9_fit_7 rfl hL rfl (fun hL => ?_) (fun hL => ?_)
  · refine ev_iload_n (pc := 90) (i := 2) dX9_fit_90 rfl rfl ?_
    exact evB_iret (pc := 91) dX9_fit_91 rfl hL
  · refine ev_aload_n (pc := 10) (i := 0) dX9_fit_10 rfl rfl ?_
    refine ev_aload_n (pc := 11) (i := 0) dX9_fit_11 rfl rfl ?_
    obtain ⟨hs1, hL⟩ := cC_un hL
    refine ev_get (pc := 12) (c9 := 9) (k9 := 9) dX9_fit_12 fl_Cc_54 (by decide) hs1 (gv9_9 hs1) ?_
    refine ev_aload_n (pc := 15) (i := 0) dX9_fit_15 rfl rfl ?_
    refine ev_get (pc := 16) (c9 := 9) (k9 := 1) dX9_fit_16 fl_Cc_19 (by decide) hs1 gv9_1 ?_
    refine ev_iload_n (pc := 19) (i := 1) dX9_fit_19 rfl rfl ?_
    obtain ⟨hs2, hL⟩ := cC_un hL
    obtain ⟨r3, h4, hc5, hL⟩ := cl_un hL
    refine evB_callV_I (pc := 20) (M_Cy_whoOf hc5) dX9_fit_20 mt_Cy_whoOf st_Cy_whoOf ml_Cc_157 hs2 (by decide) ⟨_, rfl, rfl⟩ (Nat.le_of_ble_eq_true rfl) rfl rfl (Nat.le_trans (sm_1 (cat_aV _ _) (sm_1 (cat_aV _ _) sm_z)) (by decide)) ?_
    refine ev_aload_n (pc := 23) (i := 0) dX9_fit_23 rfl rfl ?_
    refine ev_get (pc := 24) (c9 := 9) (k9 := 1) dX9_fit_24 fl_Cc_19 (by decide) hs1 gv9_1 ?_
    refine ev_iload_n (pc := 27) (i := 1) dX9_fit_27 rfl rfl ?_
    obtain ⟨hs6, hL⟩ := cC_un hL
    obtain ⟨r7, h8, hc9, hL⟩ := cl_un hL
    refine evB_callV_I (pc := 28) (M_Cy_whomOf hc9) dX9_fit_28 mt_Cy_whomOf st_Cy_whomOf ml_Cc_160 hs6 (by decide) ⟨_, rfl, rfl⟩ (Nat.le_of_ble_eq_true rfl) rfl rfl (Nat.le_trans (sm_1 (cat_iV _) (sm_1 (cat_aV _ _) (sm_1 (cat_aV _ _) sm_z))) (by decide)) ?_
    refine ev_iload_n (pc := 31) (i := 3) dX9_fit_31 rfl rfl ?_
    obtain ⟨r10, h11, hc12, hL⟩ := cl_un hL
    refine evB_callV_I (pc := 32) (M_Cc_worthBy hc12) dX9_fit_32 mt_Cc_worthBy st_Cc_worthBy ml_Cc_169 hs1 (by decide) ⟨_, rfl, rfl⟩ (Nat.le_of_ble_eq_true rfl) rfl rfl (Nat.le_trans sm_z (by decide)) ?_
    refine ev_istore (pc := 35) dX9_fit_35 (lnl_v rfl rfl) (Nat.le_of_ble_eq_true rfl) ?_
    refine ev_aload_n (pc := 37) (i := 0) dX9_fit_37 rfl rfl ?_
    refine ev_get (pc := 38) (c9 := 9) (k9 := 16) dX9_fit_38 fl_Cc_89 (by decide) hs1 (gv9_16 hs1) ?_
    refine ev_iload_n (pc := 41) (i := 1) dX9_fit_41 rfl rfl ?_
    refine ev_iload (pc := 42) dX9_fit_42 rfl ?_
    obtain ⟨hs13, hL⟩ := cC_un hL
    obtain ⟨r14, h15, hc16, hL⟩ := cl_un hL
    refine evB_callV_I (pc := 44) (M_Gv_allow hc16) dX9_fit_44 mt_Gv_allow st_Gv_allow ml_Cc_435 hs13 (by decide) ⟨_, rfl, rfl⟩ (Nat.le_of_ble_eq_true rfl) rfl rfl (Nat.le_trans sm_z (by decide)) ?_
    refine ev_istore (pc := 47) dX9_fit_47 (lnl_v rfl rfl) (Nat.le_of_ble_eq_true rfl) ?_
    refine ev_aload_n (pc := 49) (i := 0) dX9_fit_49 rfl rfl ?_
    refine ev_get (pc := 50) (c9 := 9) (k9 := 16) dX9_fit_50 fl_Cc_89 (by decide) hs1 (gv9_16 hs1) ?_
    refine ev_get (pc := 53) (c9 := 1) (k9 := 3) dX9_fit_53 fl_Cc_330 (by decide) hs13 (gv1_3 hs13) ?_
    refine ev_iload_n (pc := 56) (i := 3) dX9_fit_56 rfl rfl ?_
    refine ev_iload (pc := 57) dX9_fit_57 rfl ?_
    refine ev_if_eq (pc := 59) (tgt := 67) dX9_fit_59 rfl hL rfl (fun hL => ?_) (fun hL => ?_)
    · refine ev_iconst (pc := 67) dX9_fit_67 ?_
      exact ev_le (lvle_s (lvle_s (lvle_s (lvle_s (lvle_n (lvle_s lvle_z)))))) (KCc_fit_b68 hk4 hL)
    · refine ev_iload (pc := 62) dX9_fit_62 rfl ?_
      refine ev_goto (pc := 64) (tgt := 68) dX9_fit_64 rfl ?_
      exact ev_le (lvle_s (lvle_s (lvle_s (lvle_s (lvle_n (lvle_s lvle_z)))))) (KCc_fit_b68 hk4 hL)
set_option maxHeartbeats 1000000 in
set_option maxRecDepth 100000 in
theorem KCc_fit_b4 {ω : Wd} {z : Nat → Prop}  {h h' : Hp} {x0 x1 x2 x3 r : Int}  (hL : Cc_fit_b4 h x0 x1 x2 x3 = some (r, h')) : EvB ω N_Cc_fit 5 (QB (some (iV r)) z h') z h 4 [some (aV ω x0), some (iV x1), some (iV x2), some (iV x3), none, none] [] := by
  unfold Cc_fit_b4 at hL
  refine itr_link (P := fun (s : Hp × Int × Int × Int × Int) (o : Int × Hp) => EvB ω N_Cc_fit 5 (QB (some (iV o.1)) z o.2) z s.1 4 [some (aV ω s.2.1), some (iV s.2.2.1), some (iV s.2.2.2.1), some (iV s.2.2.2.2), none, none] []) ?_ _ _ _ hL
  intro k hk s o h9
  have h10 := KCc_fit_b4_body (ω := ω) (z := z) (k4 := k) (h := s.1) (x0 := s.2.1) (x1 := s.2.2.1) (x2 := s.2.2.2.1) (x3 := s.2.2.2.2) (r := o.1) (h' := o.2) 
  exact h10 hk h9
set_option maxHeartbeats 1000000 in
set_option maxRecDepth 100000 in
theorem M_Cc_fit {ω : Wd} {z : Nat → Prop} {h h' : Hp} {a0 a1 r : Int}  (hL : Cc_fit h a0 a1 = some (r, h')) : CtB ω N_Cc_fit 5 [aV ω a0, iV a1] z h (some (iV r)) h' := by
  unfold Cc_fit at hL
  refine Ct_of (lv := [some (aV ω a0), some (iV a1), none, none, none, none]) (by decide) (Nat.le_trans (sl_1 (cat_aV _ _) (sl_1 (cat_iV _) sl_z)) (Nat.le_of_ble_eq_true rfl)) (la_1 (cat_aV _ _) (la_1 (cat_iV _) (la_n (la_n (la_n (la_n la_z)))))) ?_
  refine ev_iconst (pc := 0) dX9_fit_0 ?_
  refine ev_istore_n (pc := 1) (i := 2) dX9_fit_1 rfl (lnl_v rfl rfl) (Nat.le_of_ble_eq_true rfl) ?_
  refine ev_iconst (pc := 2) dX9_fit_2 ?_
  refine ev_istore_n (pc := 3) (i := 3) dX9_fit_3 rfl (lnl_v rfl rfl) (Nat.le_of_ble_eq_true rfl) ?_
  exact ev_le (lvle_s (lvle_s (lvle_s (lvle_s (lvle_n (lvle_n lvle_z)))))) (KCc_fit_b4  hL)
set_option maxHeartbeats 1000000 in
set_option maxRecDepth 100000 in
theorem M_Cc_isWrong {ω : Wd} {z : Nat → Prop} {h h' : Hp} {a0 a1 r : Int}  (hL : Cc_isWrong h a0 a1 = some (r, h')) : CtB ω N_Cc_isWrong 1 [aV ω a0, iV a1] z h (some (iV r)) h' := by
  unfold Cc_isWrong at hL
  refine Ct_of (lv := [some (aV ω a0), some (iV a1)]) (by decide) (Nat.le_trans (sl_1 (cat_aV _ _) (sl_1 (cat_iV _) sl_z)) (Nat.le_of_ble_eq_true rfl)) (la_1 (cat_aV _ _) (la_1 (cat_iV _) la_z)) ?_
  refine ev_iload_n (pc := 0) (i := 1) dX9_isWrong_0 rfl rfl ?_
  refine ev_if_lt (pc := 1) (tgt := 19) dX9_isWrong_1 rfl hL rfl (fun hL => ?_) (fun hL => ?_)
  · refine ev_iconst (pc := 19) dX9_isWrong_19 ?_
    exact evB_zret (pc := 20) dX9_isWrong_20 rfl rfl hL
  · refine ev_iload_n (pc := 4) (i := 1) dX9_isWrong_4 rfl rfl ?_
    refine ev_aload_n (pc := 5) (i := 0) dX9_isWrong_5 rfl rfl ?_
    obtain ⟨hs1, hL⟩ := cC_un hL
    refine ev_get (pc := 6) (c9 := 9) (k9 := 1) dX9_isWrong_6 fl_Cc_19 (by decide) hs1 gv9_1 ?_
    obtain ⟨hs2, hL⟩ := cC_un hL
    refine ev_get (pc := 9) (c9 := 0) (k9 := 5) dX9_isWrong_9 fl_Cc_359 (by decide) hs2 gv0_5 ?_
    refine ev_icmp_ge (pc := 12) (tgt := 19) dX9_isWrong_12 rfl hL rfl (fun hL => ?_) (fun hL => ?_)
    · refine ev_iconst (pc := 15) dX9_isWrong_15 ?_
      refine ev_goto (pc := 16) (tgt := 20) dX9_isWrong_16 rfl ?_
      exact evB_zret (pc := 20) dX9_isWrong_20 rfl rfl hL
    · refine ev_iconst (pc := 19) dX9_isWrong_19 ?_
      exact evB_zret (pc := 20) dX9_isWrong_20 rfl rfl hL
set_option maxHeartbeats 1000000 in
set_option maxRecDepth 100000 in
theorem KGv_worthsFrom_b4_body {ω : Wd} {z : Nat → Prop}  {k4 : Hp × Int × Int × Int × Int → Option (Int × Hp)} {h h' : Hp} {x0 x1 x2 x3 r : Int}  (hk4 : ∀ s o, k4 s = some o → EvB ω N_Gv_worthsFrom 2 (QB (some (iV o.1)) z o.2) z s.1 4 [some (aV ω s.2.1), some (iV s.2.2.1), some (iV s.2.2.2.1), some (iV s.2.2.2.2)] []) (hL : Gv_worthsFrom_b4_body  k4 h x0 x1 x2 x3 = some (r, h')) : EvB ω N_Gv_worthsFrom 2 (QB (some (iV r)) z h') z h 4 [some (aV ω x0), some (iV x1), some (iV x2), some (iV x3)] [] := by
  unfold Gv_worthsFrom_b4_body at hL
  refine ev_iload_n (pc := 4) (i := 3) dX1_worthsFrom_4 rfl rfl ?_
  refine ev_bipush (pc := 5) dX1_worthsFrom_5 (by decide) ?_
  refine ev_icmp_gt (pc := 7) (tgt := 36) dX1_worthsFrom_7 rfl hL rfl (fun hL => ?_) (fun hL => ?_)
  · refine ev_iload_n (pc := 36) (i := 2) dX1_worthsFrom_36 rfl rfl ?_
    exact evB_iret (pc := 37) dX1_worthsFrom_37 rfl hL
  · refine ev_iload_n (pc := 10) (i := 2) dX1_worthsFrom_10 rfl rfl ?_
    refine ev_aload_n (pc := 11) (i := 0) dX1_worthsFrom_11 rfl rfl ?_
    obtain ⟨hs1, hL⟩ := cC_un hL
    refine ev_get (pc := 12) (c9 := 1) (k9 := 3) dX1_worthsFrom_12 fl_Gv_22 (by decide) hs1 (gv1_3 hs1) ?_
    refine ev_iload_n (pc := 15) (i := 3) dX1_worthsFrom_15 rfl rfl ?_
    obtain ⟨r2, h3, hc4, hL⟩ := cl_un hL
    refine evB_callS_I (pc := 16) (M_Cc_at hc4) dX1_worthsFrom_16 mt_Cc_at st_Cc_at ml_Gv_29 (Nat.le_of_ble_eq_true rfl) rfl rfl (Nat.le_trans (sm_1 (cat_iV _) sm_z) (by decide)) ?_
    refine ev_iload_n (pc := 19) (i := 1) dX1_worthsFrom_19 rfl rfl ?_
    refine ev_icmp_lt (pc := 20) (tgt := 27) dX1_worthsFrom_20 rfl hL rfl (fun hL => ?_) (fun hL => ?_)
    · refine ev_iconst (pc := 27) dX1_worthsFrom_27 ?_
      refine ev_iadd (pc := 28) dX1_worthsFrom_28 ?_
      refine ev_bdI hL (fun v5 hL => ?_)
      refine ev_istore_n (pc := 29) (i := 2) dX1_worthsFrom_29 rfl (lnl_v rfl rfl) (Nat.le_of_ble_eq_true rfl) ?_
      refine ev_iinc (pc := 30) dX1_worthsFrom_30 rfl (lnl_v rfl rfl) (Nat.le_of_ble_eq_true rfl) ?_
      refine ev_goto (pc := 33) (tgt := 4) dX1_worthsFrom_33 rfl ?_
      exact ev_le (lvle_s (lvle_s (lvle_s (lvle_s lvle_z)))) (hk4 _ _ hL)
    · refine ev_iconst (pc := 23) dX1_worthsFrom_23 ?_
      refine ev_goto (pc := 24) (tgt := 28) dX1_worthsFrom_24 rfl ?_
      refine ev_iadd (pc := 28) dX1_worthsFrom_28 ?_
      refine ev_bdI hL (fun v6 hL => ?_)
      refine ev_istore_n (pc := 29) (i := 2) dX1_worthsFrom_29 rfl (lnl_v rfl rfl) (Nat.le_of_ble_eq_true rfl) ?_
      refine ev_iinc (pc := 30) dX1_worthsFrom_30 rfl (lnl_v rfl rfl) (Nat.le_of_ble_eq_true rfl) ?_
      refine ev_goto (pc := 33) (tgt := 4) dX1_worthsFrom_33 rfl ?_
      exact ev_le (lvle_s (lvle_s (lvle_s (lvle_s lvle_z)))) (hk4 _ _ hL)
set_option maxHeartbeats 1000000 in
set_option maxRecDepth 100000 in
theorem KGv_worthsFrom_b4 {ω : Wd} {z : Nat → Prop}  {h h' : Hp} {x0 x1 x2 x3 r : Int}  (hL : Gv_worthsFrom_b4 h x0 x1 x2 x3 = some (r, h')) : EvB ω N_Gv_worthsFrom 2 (QB (some (iV r)) z h') z h 4 [some (aV ω x0), some (iV x1), some (iV x2), some (iV x3)] [] := by
  unfold Gv_worthsFrom_b4 at hL
  refine itr_link (P := fun (s : Hp × Int × Int × Int × Int) (o : Int × Hp) => EvB ω N_Gv_worthsFrom 2 (QB (some (iV o.1)) z o.2) z s.1 4 [some (aV ω s.2.1), some (iV s.2.2.1), some (iV s.2.2.2.1), some (iV s.2.2.2.2)] []) ?_ _ _ _ hL
  intro k hk s o h9
  have h10 := KGv_worthsFrom_b4_body (ω := ω) (z := z) (k4 := k) (h := s.1) (x0 := s.2.1) (x1 := s.2.2.1) (x2 := s.2.2.2.1) (x3 := s.2.2.2.2) (r := o.1) (h' := o.2) 
  exact h10 hk h9
set_option maxHeartbeats 1000000 in
set_option maxRecDepth 100000 in
theorem M_Gv_worthsFrom {ω : Wd} {z : Nat → Prop} {h h' : Hp} {a0 a1 r : Int}  (hL : Gv_worthsFrom h a0 a1 = some (r, h')) : CtB ω N_Gv_worthsFrom 2 [aV ω a0, iV a1] z h (some (iV r)) h' := by
  unfold Gv_worthsFrom at hL
  refine Ct_of (lv := [some (aV ω a0), some (iV a1), none, none]) (by decide) (Nat.le_trans (sl_1 (cat_aV _ _) (sl_1 (cat_iV _) sl_z)) (Nat.le_of_ble_eq_true rfl)) (la_1 (cat_aV _ _) (la_1 (cat_iV _) (la_n (la_n la_z)))) ?_
  refine ev_iconst (pc := 0) dX1_worthsFrom_0 ?_
  refine ev_istore_n (pc := 1) (i := 2) dX1_worthsFrom_1 rfl (lnl_v rfl rfl) (Nat.le_of_ble_eq_true rfl) ?_
  refine ev_iconst (pc := 2) dX1_worthsFrom_2 ?_
  refine ev_istore_n (pc := 3) (i := 3) dX1_worthsFrom_3 rfl (lnl_v rfl rfl) (Nat.le_of_ble_eq_true rfl) ?_
  exact ev_le (lvle_s (lvle_s (lvle_s (lvle_s lvle_z)))) (KGv_worthsFrom_b4  hL)
