set_option maxHeartbeats 1000000 in
set_option maxRecDepth 100000 in
theorem KRw_seatFrom_b43_body {ω : Wd} {z : Nat → Prop} {d0 : Nat} {kf : Hp × Int × Int → Option (Int × Hp)}  {k43 : Hp × Int × Int × Int → Option (Int × Hp)} {h h' : Hp} {x0 x1 x2 r : Int} (hkf : ∀ s o, kf s = some o → CtB ω N_Rw_seatFrom d0 [aV ω s.2.1, iV s.2.2] z s.1 none o.2) (hk43 : ∀ s o, k43 s = some o → EvB ω N_Rw_seatFrom (d0 + 4) (QB none z o.2) z s.1 43 [some (aV ω s.2.1), some (iV s.2.2.1), some (iV s.2.2.2)] []) (hL : Rw_seatFrom_b43_body kf k43 h x0 x1 x2 = some (r, h')) : EvB ω N_Rw_seatFrom (d0 + 4) (QB none z h') z h 43 [some (aV ω x0), some (iV x1), some (iV x2)] [] := by
  unfold Rw_seatFrom_b43_body at hL
  refine ev_iload_n (pc := 43) (i := 2) dX5_seatFrom_43 rfl rfl ?_
  refine ev_aload_n (pc := 44) (i := 0) dX5_seatFrom_44 rfl rfl ?_
  obtain ⟨hs6, hL⟩ := cC_un hL
  refine ev_get (pc := 45) (c9 := 5) (k9 := 3) dX5_seatFrom_45 fl_Rw_22 (by decide) hs6 gv5_3 ?_
  refine ev_icmp_ge (pc := 48) (tgt := 103) dX5_seatFrom_48 rfl hL rfl (fun hL => ?_) (fun hL => ?_)
  · refine ev_aload_n (pc := 51) (i := 0) dX5_seatFrom_51 rfl rfl ?_
    refine ev_get (pc := 52) (c9 := 5) (k9 := 1) dX5_seatFrom_52 fl_Rw_15 (by decide) hs6 (gv5_1 hs6) ?_
    refine ev_iload_n (pc := 55) (i := 2) dX5_seatFrom_55 rfl rfl ?_
    obtain ⟨r7, h8, hc9, hL⟩ := cl_un hL
    refine evB_callS_I (pc := 56) (M_Cc_at hc9) dX5_seatFrom_56 mt_Cc_at st_Cc_at ml_Rw_36 (by omega) rfl rfl (Nat.le_trans sm_z (by decide)) ?_
    refine ev_iconst (pc := 59) dX5_seatFrom_59 ?_
    refine ev_icmp_ne (pc := 60) (tgt := 97) dX5_seatFrom_60 rfl hL rfl (fun hL => ?_) (fun hL => ?_)
    · refine ev_aload_n (pc := 63) (i := 0) dX5_seatFrom_63 rfl rfl ?_
      refine ev_get (pc := 64) (c9 := 5) (k9 := 1) dX5_seatFrom_64 fl_Rw_15 (by decide) hs6 (gv5_1 hs6) ?_
      refine ev_iload_n (pc := 67) (i := 1) dX5_seatFrom_67 rfl rfl ?_
      refine ev_iload_n (pc := 68) (i := 2) dX5_seatFrom_68 rfl rfl ?_
      obtain ⟨r10, h11, hc12, hL⟩ := cl_un hL
      refine evB_callS_V (pc := 69) (M_Cc_put hc12) dX5_seatFrom_69 mt_Cc_put st_Cc_put ml_Rw_25 (by omega) rfl rfl (Nat.le_trans sm_z (by decide)) ?_
      refine ev_aload_n (pc := 72) (i := 0) dX5_seatFrom_72 rfl rfl ?_
      refine ev_get (pc := 73) (c9 := 5) (k9 := 1) dX5_seatFrom_73 fl_Rw_15 (by decide) hs6 (gv5_1 hs6) ?_
      refine ev_iload_n (pc := 76) (i := 2) dX5_seatFrom_76 rfl rfl ?_
      refine ev_iload_n (pc := 77) (i := 1) dX5_seatFrom_77 rfl rfl ?_
      obtain ⟨r13, h14, hc15, hL⟩ := cl_un hL
      refine evB_callS_V (pc := 78) (M_Cc_put hc15) dX5_seatFrom_78 mt_Cc_put st_Cc_put ml_Rw_25 (by omega) rfl rfl (Nat.le_trans sm_z (by decide)) ?_
      refine ev_aload_n (pc := 81) (i := 0) dX5_seatFrom_81 rfl rfl ?_
      refine ev_iload_n (pc := 82) (i := 1) dX5_seatFrom_82 rfl rfl ?_
      refine ev_iconst (pc := 83) dX5_seatFrom_83 ?_
      refine ev_iadd (pc := 84) dX5_seatFrom_84 ?_
      obtain ⟨r16, h17, hc18, hL⟩ := cl_un hL
      refine evB_callV_V (pc := 85) (hkf _ _ hc18) dX5_seatFrom_85 mt_Rw_seatFrom st_Rw_seatFrom ml_Rw_29 hs6 (by decide) ⟨_, rfl, rfl⟩ (by omega) rfl rfl (Nat.le_trans sm_z (by decide)) ?_
      refine ev_aload_n (pc := 88) (i := 0) dX5_seatFrom_88 rfl rfl ?_
      refine ev_get (pc := 89) (c9 := 5) (k9 := 1) dX5_seatFrom_89 fl_Rw_15 (by decide) hs6 (gv5_1 hs6) ?_
      refine ev_iload_n (pc := 92) (i := 2) dX5_seatFrom_92 rfl rfl ?_
      refine ev_iconst (pc := 93) dX5_seatFrom_93 ?_
      obtain ⟨r19, h20, hc21, hL⟩ := cl_un hL
      refine evB_callS_V (pc := 94) (M_Cc_put hc21) dX5_seatFrom_94 mt_Cc_put st_Cc_put ml_Rw_25 (by omega) rfl rfl (Nat.le_trans sm_z (by decide)) ?_
      refine ev_iinc (pc := 97) dX5_seatFrom_97 rfl (lnl_v rfl rfl) (Nat.le_of_ble_eq_true rfl) ?_
      refine ev_goto (pc := 100) (tgt := 43) dX5_seatFrom_100 rfl ?_
      exact ev_le (lvle_s (lvle_s (lvle_s lvle_z))) (hk43 _ _ hL)
    · refine ev_iinc (pc := 97) dX5_seatFrom_97 rfl (lnl_v rfl rfl) (Nat.le_of_ble_eq_true rfl) ?_
      refine ev_goto (pc := 100) (tgt := 43) dX5_seatFrom_100 rfl ?_
      exact ev_le (lvle_s (lvle_s (lvle_s lvle_z))) (hk43 _ _ hL)
  · refine ev_aload_n (pc := 103) (i := 0) dX5_seatFrom_103 rfl rfl ?_
    refine ev_get (pc := 104) (c9 := 5) (k9 := 1) dX5_seatFrom_104 fl_Rw_15 (by decide) hs6 (gv5_1 hs6) ?_
    refine ev_iload_n (pc := 107) (i := 1) dX5_seatFrom_107 rfl rfl ?_
    refine ev_bipush (pc := 108) dX5_seatFrom_108 (by decide) ?_
    obtain ⟨r22, h23, hc24, hL⟩ := cl_un hL
    refine evB_callS_V (pc := 110) (M_Cc_put hc24) dX5_seatFrom_110 mt_Cc_put st_Cc_put ml_Rw_25 (by omega) rfl rfl (Nat.le_trans sm_z (by decide)) ?_
    refine ev_aload_n (pc := 113) (i := 0) dX5_seatFrom_113 rfl rfl ?_
    refine ev_iload_n (pc := 114) (i := 1) dX5_seatFrom_114 rfl rfl ?_
    refine ev_iconst (pc := 115) dX5_seatFrom_115 ?_
    refine ev_iadd (pc := 116) dX5_seatFrom_116 ?_
    obtain ⟨r25, h26, hc27, hL⟩ := cl_un hL
    refine evB_callV_V (pc := 117) (hkf _ _ hc27) dX5_seatFrom_117 mt_Rw_seatFrom st_Rw_seatFrom ml_Rw_29 hs6 (by decide) ⟨_, rfl, rfl⟩ (by omega) rfl rfl (Nat.le_trans sm_z (by decide)) ?_
    refine ev_aload_n (pc := 120) (i := 0) dX5_seatFrom_120 rfl rfl ?_
    refine ev_get (pc := 121) (c9 := 5) (k9 := 1) dX5_seatFrom_121 fl_Rw_15 (by decide) hs6 (gv5_1 hs6) ?_
    refine ev_iload_n (pc := 124) (i := 1) dX5_seatFrom_124 rfl rfl ?_
    refine ev_iconst (pc := 125) dX5_seatFrom_125 ?_
    obtain ⟨r28, h29, hc30, hL⟩ := cl_un hL
    refine evB_callS_V (pc := 126) (M_Cc_put hc30) dX5_seatFrom_126 mt_Cc_put st_Cc_put ml_Rw_25 (by omega) rfl rfl (Nat.le_trans sm_z (by decide)) ?_
    exact evB_vret (pc := 129) dX5_seatFrom_129 rfl hL
set_option maxHeartbeats 1000000 in
set_option maxRecDepth 100000 in
theorem KRw_seatFrom_b43 {ω : Wd} {z : Nat → Prop} {d0 : Nat} {kf : Hp × Int × Int → Option (Int × Hp)}  {h h' : Hp} {x0 x1 x2 r : Int} (hkf : ∀ s o, kf s = some o → CtB ω N_Rw_seatFrom d0 [aV ω s.2.1, iV s.2.2] z s.1 none o.2) (hL : Rw_seatFrom_b43 kf h x0 x1 x2 = some (r, h')) : EvB ω N_Rw_seatFrom (d0 + 4) (QB none z h') z h 43 [some (aV ω x0), some (iV x1), some (iV x2)] [] := by
  unfold Rw_seatFrom_b43 at hL
  refine itr_link (P := fun (s : Hp × Int × Int × Int) (o : Int × Hp) => EvB ω N_Rw_seatFrom (d0 + 4) (QB none z o.2) z s.1 43 [some (aV ω s.2.1), some (iV s.2.2.1), some (iV s.2.2.2)] []) ?_ _ _ _ hL
  intro k hk s o h9
  have h10 := KRw_seatFrom_b43_body (ω := ω) (z := z) (d0 := d0) (kf := kf) (k43 := k) (h := s.1) (x0 := s.2.1) (x1 := s.2.2.1) (x2 := s.2.2.2) (r := o.1) (h' := o.2) hkf
  exact h10 hk h9
set_option maxHeartbeats 1000000 in
set_option maxRecDepth 100000 in
theorem KRw_seatFrom_b14 {ω : Wd} {z : Nat → Prop} {d0 : Nat} {kf : Hp × Int × Int → Option (Int × Hp)}  {h h' : Hp} {x0 r : Int} (hkf : ∀ s o, kf s = some o → CtB ω N_Rw_seatFrom d0 [aV ω s.2.1, iV s.2.2] z s.1 none o.2) (hL : Rw_seatFrom_b14 kf h x0 = some (r, h')) : EvB ω N_Rw_seatFrom (d0 + 4) (QB none z h') z h 14 [some (aV ω x0), none, none] [] := by
  unfold Rw_seatFrom_b14 at hL
  refine ev_aload_n (pc := 14) (i := 0) dX5_seatFrom_14 rfl rfl ?_
  obtain ⟨hs34, hL⟩ := cC_un hL
  obtain ⟨r35, h36, hc37, hL⟩ := cl_un hL
  refine evB_callV_V (pc := 15) (M_Rw_add hc37) dX5_seatFrom_15 mt_Rw_add st_Rw_add ml_Rw_33 hs34 (by decide) ⟨_, rfl, rfl⟩ (by omega) rfl rfl (Nat.le_trans sm_z (by decide)) ?_
  exact evB_vret (pc := 18) dX5_seatFrom_18 rfl hL
set_option maxHeartbeats 1000000 in
set_option maxRecDepth 100000 in
theorem MB_Rw_seatFrom {ω : Wd} {z : Nat → Prop} {d0 : Nat} {kf : Hp × Int × Int → Option (Int × Hp)} {h h' : Hp} {a0 a1 r : Int} (hkf : ∀ s o, kf s = some o → CtB ω N_Rw_seatFrom d0 [aV ω s.2.1, iV s.2.2] z s.1 none o.2) (hL : Rw_seatFrom_body kf h a0 a1 = some (r, h')) : CtB ω N_Rw_seatFrom (d0 + 4) [aV ω a0, iV a1] z h none h' := by
  unfold Rw_seatFrom_body at hL
  refine Ct_of (lv := [some (aV ω a0), some (iV a1), none]) (by decide) (Nat.le_trans (sl_1 (cat_aV _ _) (sl_1 (cat_iV _) sl_z)) (Nat.le_of_ble_eq_true rfl)) (la_1 (cat_aV _ _) (la_1 (cat_iV _) (la_n la_z))) ?_
  refine ev_iload_n (pc := 0) (i := 1) dX5_seatFrom_0 rfl rfl ?_
  refine ev_aload_n (pc := 1) (i := 0) dX5_seatFrom_1 rfl rfl ?_
  obtain ⟨hs1, hL⟩ := cC_un hL
  refine ev_get (pc := 2) (c9 := 5) (k9 := 3) dX5_seatFrom_2 fl_Rw_22 (by decide) hs1 gv5_3 ?_
  refine ev_icmp_ge (pc := 5) (tgt := 14) dX5_seatFrom_5 rfl hL rfl (fun hL => ?_) (fun hL => ?_)
  · refine ev_iload_n (pc := 8) (i := 1) dX5_seatFrom_8 rfl rfl ?_
    refine ev_bipush (pc := 9) dX5_seatFrom_9 (by decide) ?_
    refine ev_icmp_lt (pc := 11) (tgt := 19) dX5_seatFrom_11 rfl hL rfl (fun hL => ?_) (fun hL => ?_)
    · refine ev_aload_n (pc := 19) (i := 0) dX5_seatFrom_19 rfl rfl ?_
      refine ev_get (pc := 20) (c9 := 5) (k9 := 1) dX5_seatFrom_20 fl_Rw_15 (by decide) hs1 (gv5_1 hs1) ?_
      refine ev_iload_n (pc := 23) (i := 1) dX5_seatFrom_23 rfl rfl ?_
      obtain ⟨r2, h3, hc4, hL⟩ := cl_un hL
      refine evB_callS_I (pc := 24) (M_Cc_at hc4) dX5_seatFrom_24 mt_Cc_at st_Cc_at ml_Rw_36 (by omega) rfl rfl (Nat.le_trans sm_z (by decide)) ?_
      refine ev_iconst (pc := 27) dX5_seatFrom_27 ?_
      refine ev_icmp_eq (pc := 28) (tgt := 39) dX5_seatFrom_28 rfl hL rfl (fun hL => ?_) (fun hL => ?_)
      · refine ev_iload_n (pc := 39) (i := 1) dX5_seatFrom_39 rfl rfl ?_
        refine ev_iconst (pc := 40) dX5_seatFrom_40 ?_
        refine ev_iadd (pc := 41) dX5_seatFrom_41 ?_
        refine ev_bdI hL (fun v5 hL => ?_)
        refine ev_istore_n (pc := 42) (i := 2) dX5_seatFrom_42 rfl (lnl_v rfl rfl) (Nat.le_of_ble_eq_true rfl) ?_
        exact ev_le (lvle_s (lvle_s (lvle_s lvle_z))) (KRw_seatFrom_b43 hkf hL)
      · refine ev_aload_n (pc := 31) (i := 0) dX5_seatFrom_31 rfl rfl ?_
        refine ev_iload_n (pc := 32) (i := 1) dX5_seatFrom_32 rfl rfl ?_
        refine ev_iconst (pc := 33) dX5_seatFrom_33 ?_
        refine ev_iadd (pc := 34) dX5_seatFrom_34 ?_
        obtain ⟨r31, h32, hc33, hL⟩ := cl_un hL
        refine evB_callV_V (pc := 35) (hkf _ _ hc33) dX5_seatFrom_35 mt_Rw_seatFrom st_Rw_seatFrom ml_Rw_29 hs1 (by decide) ⟨_, rfl, rfl⟩ (by omega) rfl rfl (Nat.le_trans sm_z (by decide)) ?_
        exact evB_vret (pc := 38) dX5_seatFrom_38 rfl hL
    · exact ev_le (lvle_s (lvle_n (lvle_n lvle_z))) (KRw_seatFrom_b14 hkf hL)
  · exact ev_le (lvle_s (lvle_n (lvle_n lvle_z))) (KRw_seatFrom_b14 hkf hL)
set_option maxHeartbeats 1000000 in
set_option maxRecDepth 100000 in
theorem MR_Rw_seatFrom {ω : Wd} {z : Nat → Prop} : ∀ (n : Nat) (s : Hp × Int × Int) (o : Int × Hp), itr (fun k s => Rw_seatFrom_body k s.1 s.2.1 s.2.2) n s = some o → CtB ω N_Rw_seatFrom (n * 4) [aV ω s.2.1, iV s.2.2] z s.1 none o.2 := by
  refine itr_rec (P := fun (n : Nat) (s : Hp × Int × Int) (o : Int × Hp) => CtB ω N_Rw_seatFrom (n * 4) [aV ω s.2.1, iV s.2.2] z s.1 none o.2) (fun n k hk s o h9 => ?_)
  have := MB_Rw_seatFrom (ω := ω) (z := z) (h := s.1) (a0 := s.2.1) (a1 := s.2.2) (r := o.1) (h' := o.2) hk h9
  rwa [show n * 4 + 4 = (n + 1) * 4 from by omega] at this
set_option maxHeartbeats 1000000 in
set_option maxRecDepth 100000 in
theorem M_Rw_seatFrom {ω : Wd} {z : Nat → Prop} {h h' : Hp} {a0 a1 r : Int} (hL : Rw_seatFrom h a0 a1 = some (r, h')) : CtB ω N_Rw_seatFrom 48 [aV ω a0, iV a1] z h none h' := by
  unfold Rw_seatFrom Rw_seatFrom_f at hL
  exact MR_Rw_seatFrom RF (h, a0, a1) (r, h') hL
set_option maxHeartbeats 1000000 in
set_option maxRecDepth 100000 in
theorem KRw_make_b12_body {ω : Wd} {z : Nat → Prop}  {k12 : Hp × Int × Int → Option (Int × Hp)} {h h' : Hp} {x0 x2 r : Int}  (hk12 : ∀ s o, k12 s = some o → EvB ω N_Rw_make 49 (QB none z o.2) z s.1 12 [some (aV ω s.2.1), none, some (iV s.2.2)] []) (hL : Rw_make_b12_body  k12 h x0 x2 = some (r, h')) : EvB ω N_Rw_make 49 (QB none z h') z h 12 [some (aV ω x0), none, some (iV x2)] [] := by
  unfold Rw_make_b12_body at hL
  refine ev_iload_n (pc := 12) (i := 2) dX5_make_12 rfl rfl ?_
  refine ev_bipush (pc := 13) dX5_make_13 (by decide) ?_
  refine ev_icmp_ge (pc := 15) (tgt := 33) dX5_make_15 rfl hL rfl (fun hL => ?_) (fun hL => ?_)
  · refine ev_aload_n (pc := 18) (i := 0) dX5_make_18 rfl rfl ?_
    obtain ⟨hs4, hL⟩ := cC_un hL
    refine ev_get (pc := 19) (c9 := 5) (k9 := 1) dX5_make_19 fl_Rw_15 (by decide) hs4 (gv5_1 hs4) ?_
    refine ev_iload_n (pc := 22) (i := 2) dX5_make_22 rfl rfl ?_
    refine ev_iconst (pc := 23) dX5_make_23 ?_
    obtain ⟨r5, h6, hc7, hL⟩ := cl_un hL
    refine evB_callS_V (pc := 24) (M_Cc_put hc7) dX5_make_24 mt_Cc_put st_Cc_put ml_Rw_25 (Nat.le_of_ble_eq_true rfl) rfl rfl (Nat.le_trans sm_z (by decide)) ?_
    refine ev_iinc (pc := 27) dX5_make_27 rfl (lnl_n rfl) (Nat.le_of_ble_eq_true rfl) ?_
    refine ev_goto (pc := 30) (tgt := 12) dX5_make_30 rfl ?_
    exact ev_le (lvle_s (lvle_n (lvle_s lvle_z))) (hk12 _ _ hL)
  · refine ev_aload_n (pc := 33) (i := 0) dX5_make_33 rfl rfl ?_
    refine ev_iconst (pc := 34) dX5_make_34 ?_
    obtain ⟨hs8, hL⟩ := cC_un hL
    obtain ⟨r9, h10, hc11, hL⟩ := cl_un hL
    refine evB_callV_V (pc := 35) (M_Rw_seatFrom hc11) dX5_make_35 mt_Rw_seatFrom st_Rw_seatFrom ml_Rw_29 hs8 (by decide) ⟨_, rfl, rfl⟩ (Nat.le_of_ble_eq_true rfl) rfl rfl (Nat.le_trans sm_z (by decide)) ?_
    exact evB_vret (pc := 38) dX5_make_38 rfl hL
set_option maxHeartbeats 1000000 in
set_option maxRecDepth 100000 in
theorem KRw_make_b12 {ω : Wd} {z : Nat → Prop}  {h h' : Hp} {x0 x2 r : Int}  (hL : Rw_make_b12 h x0 x2 = some (r, h')) : EvB ω N_Rw_make 49 (QB none z h') z h 12 [some (aV ω x0), none, some (iV x2)] [] := by
  unfold Rw_make_b12 at hL
  refine itr_link (P := fun (s : Hp × Int × Int) (o : Int × Hp) => EvB ω N_Rw_make 49 (QB none z o.2) z s.1 12 [some (aV ω s.2.1), none, some (iV s.2.2)] []) ?_ _ _ _ hL
  intro k hk s o h9
  have h10 := KRw_make_b12_body (ω := ω) (z := z) (k12 := k) (h := s.1) (x0 := s.2.1) (x2 := s.2.2) (r := o.1) (h' := o.2) 
  exact h10 hk h9
set_option maxHeartbeats 1000000 in
set_option maxRecDepth 100000 in
theorem M_Rw_make {ω : Wd} {z : Nat → Prop} {h h' : Hp} {a0 a1 r : Int}  (hL : Rw_make h a0 a1 = some (r, h')) : CtB ω N_Rw_make 49 [aV ω a0, iV a1] z h none h' := by
  unfold Rw_make at hL
  refine Ct_of (lv := [some (aV ω a0), some (iV a1), none]) (by decide) (Nat.le_trans (sl_1 (cat_aV _ _) (sl_1 (cat_iV _) sl_z)) (Nat.le_of_ble_eq_true rfl)) (la_1 (cat_aV _ _) (la_1 (cat_iV _) (la_n la_z))) ?_
  refine ev_aload_n (pc := 0) (i := 0) dX5_make_0 rfl rfl ?_
  refine ev_iconst (pc := 1) dX5_make_1 ?_
  obtain ⟨hs1, hL⟩ := cC_un hL
  refine evB_putI (pc := 2) (c9 := 5) (k9 := 2) (kI := 2) dX5_make_2 fl_Rw_18 hs1 (by decide) (fun q hq => by cases hq; rfl) rfl rfl rfl ?_
  refine ev_puG hL (fun h2 hL => ?_)
  refine ev_aload_n (pc := 5) (i := 0) dX5_make_5 rfl rfl ?_
  refine ev_iload_n (pc := 6) (i := 1) dX5_make_6 rfl rfl ?_
  refine evB_putI (pc := 7) (c9 := 5) (k9 := 3) (kI := 3) dX5_make_7 fl_Rw_22 hs1 (by decide) (fun q hq => by cases hq; rfl) rfl rfl rfl ?_
  refine ev_puG hL (fun h3 hL => ?_)
  refine ev_iconst (pc := 10) dX5_make_10 ?_
  refine ev_istore_n (pc := 11) (i := 2) dX5_make_11 rfl (lnl_v rfl rfl) (Nat.le_of_ble_eq_true rfl) ?_
  exact ev_le (lvle_s (lvle_n (lvle_s lvle_z))) (KRw_make_b12  hL)
set_option maxHeartbeats 1000000 in
set_option maxRecDepth 100000 in
theorem M_Cy_boreOf {ω : Wd} {z : Nat → Prop} {h h' : Hp} {a0 a1 r : Int}  (hL : Cy_boreOf h a0 a1 = some (r, h')) : CtB ω N_Cy_boreOf 2 [aV ω a0, iV a1] z h (some (iV r)) h' := by
  unfold Cy_boreOf at hL
  refine Ct_of (lv := [some (aV ω a0), some (iV a1)]) (by decide) (Nat.le_trans (sl_1 (cat_aV _ _) (sl_1 (cat_iV _) sl_z)) (Nat.le_of_ble_eq_true rfl)) (la_1 (cat_aV _ _) (la_1 (cat_iV _) la_z)) ?_
  refine ev_aload_n (pc := 0) (i := 0) dX0_boreOf_0 rfl rfl ?_
  obtain ⟨hs1, hL⟩ := cC_un hL
  refine ev_get (pc := 1) (c9 := 0) (k9 := 1) dX0_boreOf_1 fl_Cy_15 (by decide) hs1 (gv0_1 hs1) ?_
  refine ev_iconst (pc := 4) dX0_boreOf_4 ?_
  refine ev_iload_n (pc := 5) (i := 1) dX0_boreOf_5 rfl rfl ?_
  refine ev_imul (pc := 6) dX0_boreOf_6 ?_
  refine ev_iconst (pc := 7) dX0_boreOf_7 ?_
  refine ev_iadd (pc := 8) dX0_boreOf_8 ?_
  obtain ⟨r2, h3, hc4, hL⟩ := cl_un hL
  refine evB_callS_I (pc := 9) (M_Cc_at hc4) dX0_boreOf_9 mt_Cc_at st_Cc_at ml_Cy_74 (Nat.le_of_ble_eq_true rfl) rfl rfl (Nat.le_trans sm_z (by decide)) ?_
  exact evB_iret (pc := 12) dX0_boreOf_12 rfl hL
set_option maxHeartbeats 1000000 in
set_option maxRecDepth 100000 in
theorem M_Cy_coinsTold {ω : Wd} {z : Nat → Prop} {h h' : Hp} {a0 r : Int}  (hL : Cy_coinsTold h a0 = some (r, h')) : CtB ω N_Cy_coinsTold 2 [aV ω a0] z h (some (iV r)) h' := by
  unfold Cy_coinsTold at hL
  refine Ct_of (lv := [some (aV ω a0)]) (by decide) (Nat.le_trans (sl_1 (cat_aV _ _) sl_z) (Nat.le_of_ble_eq_true rfl)) (la_1 (cat_aV _ _) la_z) ?_
  refine ev_aload_n (pc := 0) (i := 0) dX0_coinsTold_0 rfl rfl ?_
  obtain ⟨hs1, hL⟩ := cC_un hL
  refine ev_get (pc := 1) (c9 := 0) (k9 := 0) dX0_coinsTold_1 fl_Cy_9 (by decide) hs1 (gv0_0 hs1) ?_
  refine ev_iconst (pc := 4) dX0_coinsTold_4 ?_
  obtain ⟨r2, h3, hc4, hL⟩ := cl_un hL
  refine evB_callS_I (pc := 5) (M_Cc_at hc4) dX0_coinsTold_5 mt_Cc_at st_Cc_at ml_Cy_74 (Nat.le_of_ble_eq_true rfl) rfl rfl (Nat.le_trans sm_z (by decide)) ?_
  exact evB_iret (pc := 8) dX0_coinsTold_8 rfl hL
set_option maxHeartbeats 1000000 in
set_option maxRecDepth 100000 in
theorem M_Cy_lonelyOf {ω : Wd} {z : Nat → Prop} {h h' : Hp} {a0 a1 r : Int}  (hL : Cy_lonelyOf h a0 a1 = some (r, h')) : CtB ω N_Cy_lonelyOf 2 [aV ω a0, iV a1] z h (some (iV r)) h' := by
  unfold Cy_lonelyOf at hL
  refine Ct_of (lv := [some (aV ω a0), some (iV a1)]) (by decide) (Nat.le_trans (sl_1 (cat_aV _ _) (sl_1 (cat_iV _) sl_z)) (Nat.le_of_ble_eq_true rfl)) (la_1 (cat_aV _ _) (la_1 (cat_iV _) la_z)) ?_
  refine ev_aload_n (pc := 0) (i := 0) dX0_lonelyOf_0 rfl rfl ?_
  obtain ⟨hs1, hL⟩ := cC_un hL
  refine ev_get (pc := 1) (c9 := 0) (k9 := 1) dX0_lonelyOf_1 fl_Cy_15 (by decide) hs1 (gv0_1 hs1) ?_
  refine ev_iconst (pc := 4) dX0_lonelyOf_4 ?_
  refine ev_iload_n (pc := 5) (i := 1) dX0_lonelyOf_5 rfl rfl ?_
  refine ev_imul (pc := 6) dX0_lonelyOf_6 ?_
  obtain ⟨r2, h3, hc4, hL⟩ := cl_un hL
  refine evB_callS_I (pc := 7) (M_Cc_at hc4) dX0_lonelyOf_7 mt_Cc_at st_Cc_at ml_Cy_74 (Nat.le_of_ble_eq_true rfl) rfl rfl (Nat.le_trans sm_z (by decide)) ?_
  exact evB_iret (pc := 10) dX0_lonelyOf_10 rfl hL
set_option maxHeartbeats 1000000 in
set_option maxRecDepth 100000 in
theorem KSt_begin_b59_body {ω : Wd} {z : Nat → Prop}  {k59 : Hp × Int × Int × Int → Option (Int × Hp)} {h h' : Hp} {x0 x1 x2 r : Int}  (hk59 : ∀ s o, k59 s = some o → EvB ω N_St_begin 3 (QB none z o.2) z s.1 59 [some (aV ω s.2.1), some (aV ω s.2.2.1), some (iV s.2.2.2)] []) (hL : St_begin_b59_body  k59 h x0 x1 x2 = some (r, h')) : EvB ω N_St_begin 3 (QB none z h') z h 59 [some (aV ω x0), some (aV ω x1), some (iV x2)] [] := by
  unfold St_begin_b59_body at hL
  refine ev_iload_n (pc := 59) (i := 2) dX7_begin_59 rfl rfl ?_
  refine ev_aload_n (pc := 60) (i := 0) dX7_begin_60 rfl rfl ?_
  obtain ⟨hs16, hL⟩ := cC_un hL
  refine ev_get (pc := 61) (c9 := 7) (k9 := 4) dX7_begin_61 fl_St_24 (by decide) hs16 gv7_4 ?_
  refine ev_icmp_ge (pc := 64) (tgt := 99) dX7_begin_64 rfl hL rfl (fun hL => ?_) (fun hL => ?_)
  · refine ev_aload_n (pc := 67) (i := 0) dX7_begin_67 rfl rfl ?_
    refine ev_get (pc := 68) (c9 := 7) (k9 := 1) dX7_begin_68 fl_St_15 (by decide) hs16 (gv7_1 hs16) ?_
    refine ev_iload_n (pc := 71) (i := 2) dX7_begin_71 rfl rfl ?_
    refine ev_aload_n (pc := 72) (i := 1) dX7_begin_72 rfl rfl ?_
    refine ev_iload_n (pc := 73) (i := 2) dX7_begin_73 rfl rfl ?_
    obtain ⟨hs17, hL⟩ := cC_un hL
    obtain ⟨r18, h19, hc20, hL⟩ := cl_un hL
    refine evB_callV_I (pc := 74) (M_Cy_lonelyOf hc20) dX7_begin_74 mt_Cy_lonelyOf st_Cy_lonelyOf ml_St_57 hs17 (by decide) ⟨_, rfl, rfl⟩ (Nat.le_of_ble_eq_true rfl) rfl rfl (Nat.le_trans (sm_1 (cat_iV _) (sm_1 (cat_aV _ _) sm_z)) (by decide)) ?_
    obtain ⟨r21, h22, hc23, hL⟩ := cl_un hL
    refine evB_callS_V (pc := 77) (M_Cc_put hc23) dX7_begin_77 mt_Cc_put st_Cc_put ml_St_53 (Nat.le_of_ble_eq_true rfl) rfl rfl (Nat.le_trans sm_z (by decide)) ?_
    refine ev_aload_n (pc := 80) (i := 0) dX7_begin_80 rfl rfl ?_
    refine ev_get (pc := 81) (c9 := 7) (k9 := 2) dX7_begin_81 fl_St_18 (by decide) hs16 (gv7_2 hs16) ?_
    refine ev_iload_n (pc := 84) (i := 2) dX7_begin_84 rfl rfl ?_
    refine ev_aload_n (pc := 85) (i := 1) dX7_begin_85 rfl rfl ?_
    refine ev_iload_n (pc := 86) (i := 2) dX7_begin_86 rfl rfl ?_
    obtain ⟨r24, h25, hc26, hL⟩ := cl_un hL
    refine evB_callV_I (pc := 87) (M_Cy_boreOf hc26) dX7_begin_87 mt_Cy_boreOf st_Cy_boreOf ml_St_61 hs17 (by decide) ⟨_, rfl, rfl⟩ (Nat.le_of_ble_eq_true rfl) rfl rfl (Nat.le_trans (sm_1 (cat_iV _) (sm_1 (cat_aV _ _) sm_z)) (by decide)) ?_
    obtain ⟨r27, h28, hc29, hL⟩ := cl_un hL
    refine evB_callS_V (pc := 90) (M_Cc_put hc29) dX7_begin_90 mt_Cc_put st_Cc_put ml_St_53 (Nat.le_of_ble_eq_true rfl) rfl rfl (Nat.le_trans sm_z (by decide)) ?_
    refine ev_iinc (pc := 93) dX7_begin_93 rfl (lnl_v (cat_aV _ _) rfl) (Nat.le_of_ble_eq_true rfl) ?_
    refine ev_goto (pc := 96) (tgt := 59) dX7_begin_96 rfl ?_
    exact ev_le (lvle_s (lvle_s (lvle_s lvle_z))) (hk59 _ _ hL)
  · exact evB_vret (pc := 99) dX7_begin_99 rfl hL
set_option maxHeartbeats 1000000 in
set_option maxRecDepth 100000 in
theorem KSt_begin_b59 {ω : Wd} {z : Nat → Prop}  {h h' : Hp} {x0 x1 x2 r : Int}  (hL : St_begin_b59 h x0 x1 x2 = some (r, h')) : EvB ω N_St_begin 3 (QB none z h') z h 59 [some (aV ω x0), some (aV ω x1), some (iV x2)] [] := by
  unfold St_begin_b59 at hL
  refine itr_link (P := fun (s : Hp × Int × Int × Int) (o : Int × Hp) => EvB ω N_St_begin 3 (QB none z o.2) z s.1 59 [some (aV ω s.2.1), some (aV ω s.2.2.1), some (iV s.2.2.2)] []) ?_ _ _ _ hL
  intro k hk s o h9
  have h10 := KSt_begin_b59_body (ω := ω) (z := z) (k59 := k) (h := s.1) (x0 := s.2.1) (x1 := s.2.2.1) (x2 := s.2.2.2) (r := o.1) (h' := o.2) 
  exact h10 hk h9
set_option maxHeartbeats 1000000 in
set_option maxRecDepth 100000 in
theorem KSt_begin_b33_body {ω : Wd} {z : Nat → Prop}  {k33 : Hp × Int × Int × Int → Option (Int × Hp)} {h h' : Hp} {x0 x1 x2 r : Int}  (hk33 : ∀ s o, k33 s = some o → EvB ω N_St_begin 3 (QB none z o.2) z s.1 33 [some (aV ω s.2.1), some (aV ω s.2.2.1), some (iV s.2.2.2)] []) (hL : St_begin_b33_body  k33 h x0 x1 x2 = some (r, h')) : EvB ω N_St_begin 3 (QB none z h') z h 33 [some (aV ω x0), some (aV ω x1), some (iV x2)] [] := by
  unfold St_begin_b33_body at hL
  refine ev_iload_n (pc := 33) (i := 2) dX7_begin_33 rfl rfl ?_
  refine ev_aload_n (pc := 34) (i := 0) dX7_begin_34 rfl rfl ?_
  obtain ⟨hs11, hL⟩ := cC_un hL
  refine ev_get (pc := 35) (c9 := 7) (k9 := 0) dX7_begin_35 fl_St_9 (by decide) hs11 (gv7_0 hs11) ?_
  obtain ⟨q12a, hL⟩ := cN_un hL
  refine ev_alen (pc := 38) dX7_begin_38 q12a ?_
  refine ev_icmp_ge (pc := 39) (tgt := 57) dX7_begin_39 rfl hL rfl (fun hL => ?_) (fun hL => ?_)
  · refine ev_aload_n (pc := 42) (i := 0) dX7_begin_42 rfl rfl ?_
    refine ev_get (pc := 43) (c9 := 7) (k9 := 0) dX7_begin_43 fl_St_9 (by decide) hs11 (gv7_0 hs11) ?_
    refine ev_iload_n (pc := 46) (i := 2) dX7_begin_46 rfl rfl ?_
    refine ev_iconst (pc := 47) dX7_begin_47 ?_
    obtain ⟨r13, h14, hc15, hL⟩ := cl_un hL
    refine evB_callS_V (pc := 48) (M_Cc_put hc15) dX7_begin_48 mt_Cc_put st_Cc_put ml_St_53 (Nat.le_of_ble_eq_true rfl) rfl rfl (Nat.le_trans sm_z (by decide)) ?_
    refine ev_iinc (pc := 51) dX7_begin_51 rfl (lnl_v (cat_aV _ _) rfl) (Nat.le_of_ble_eq_true rfl) ?_
    refine ev_goto (pc := 54) (tgt := 33) dX7_begin_54 rfl ?_
    exact ev_le (lvle_s (lvle_s (lvle_s lvle_z))) (hk33 _ _ hL)
  · refine ev_iconst (pc := 57) dX7_begin_57 ?_
    refine ev_istore_n (pc := 58) (i := 2) dX7_begin_58 rfl (lnl_v (cat_aV _ _) rfl) (Nat.le_of_ble_eq_true rfl) ?_
    exact ev_le (lvle_s (lvle_s (lvle_s lvle_z))) (KSt_begin_b59  hL)
set_option maxHeartbeats 1000000 in
set_option maxRecDepth 100000 in
theorem KSt_begin_b33 {ω : Wd} {z : Nat → Prop}  {h h' : Hp} {x0 x1 x2 r : Int}  (hL : St_begin_b33 h x0 x1 x2 = some (r, h')) : EvB ω N_St_begin 3 (QB none z h') z h 33 [some (aV ω x0), some (aV ω x1), some (iV x2)] [] := by
  unfold St_begin_b33 at hL
  refine itr_link (P := fun (s : Hp × Int × Int × Int) (o : Int × Hp) => EvB ω N_St_begin 3 (QB none z o.2) z s.1 33 [some (aV ω s.2.1), some (aV ω s.2.2.1), some (iV s.2.2.2)] []) ?_ _ _ _ hL
  intro k hk s o h9
  have h10 := KSt_begin_b33_body (ω := ω) (z := z) (k33 := k) (h := s.1) (x0 := s.2.1) (x1 := s.2.2.1) (x2 := s.2.2.2) (r := o.1) (h' := o.2) 
  exact h10 hk h9
set_option maxHeartbeats 1000000 in
set_option maxRecDepth 100000 in
theorem M_St_begin {ω : Wd} {z : Nat → Prop} {h h' : Hp} {a0 a1 r : Int}  (hL : St_begin h a0 a1 = some (r, h')) : CtB ω N_St_begin 3 [aV ω a0, aV ω a1] z h none h' := by
  unfold St_begin at hL
  refine Ct_of (lv := [some (aV ω a0), some (aV ω a1), none]) (by decide) (Nat.le_trans (sl_1 (cat_aV _ _) (sl_1 (cat_aV _ _) sl_z)) (Nat.le_of_ble_eq_true rfl)) (la_1 (cat_aV _ _) (la_1 (cat_aV _ _) (la_n la_z))) ?_
  refine ev_aload_n (pc := 0) (i := 0) dX7_begin_0 rfl rfl ?_
  refine ev_aload_n (pc := 1) (i := 1) dX7_begin_1 rfl rfl ?_
  obtain ⟨hs1, hL⟩ := cC_un hL
  refine ev_get (pc := 2) (c9 := 0) (k9 := 4) dX7_begin_2 fl_St_46 (by decide) hs1 gv0_4 ?_
  obtain ⟨hs2, hL⟩ := cC_un hL
  refine evB_putI (pc := 5) (c9 := 7) (k9 := 4) (kI := 4) dX7_begin_5 fl_St_24 hs2 (by decide) (fun q hq => by cases hq; rfl) rfl rfl rfl ?_
  refine ev_puG hL (fun h3 hL => ?_)
  refine ev_aload_n (pc := 8) (i := 0) dX7_begin_8 rfl rfl ?_
  refine ev_iconst (pc := 9) dX7_begin_9 ?_
  refine evB_putI (pc := 10) (c9 := 7) (k9 := 5) (kI := 5) dX7_begin_10 fl_St_28 hs2 (by decide) (fun q hq => by cases hq; rfl) rfl rfl rfl ?_
  refine ev_puG hL (fun h4 hL => ?_)
  refine ev_aload_n (pc := 13) (i := 0) dX7_begin_13 rfl rfl ?_
  refine ev_aload_n (pc := 14) (i := 1) dX7_begin_14 rfl rfl ?_
  obtain ⟨r5, h6, hc7, hL⟩ := cl_un hL
  refine evB_callV_I (pc := 15) (M_Cy_coinsTold hc7) dX7_begin_15 mt_Cy_coinsTold st_Cy_coinsTold ml_St_49 hs1 (by decide) ⟨_, rfl, rfl⟩ (Nat.le_of_ble_eq_true rfl) rfl rfl (Nat.le_trans (sm_1 (cat_aV _ _) sm_z) (by decide)) ?_
  refine evB_putI (pc := 18) (c9 := 7) (k9 := 6) (kI := 6) dX7_begin_18 fl_St_31 hs2 (by decide) (fun q hq => by cases hq; rfl) rfl rfl rfl ?_
  refine ev_puG hL (fun h8 hL => ?_)
  refine ev_aload_n (pc := 21) (i := 0) dX7_begin_21 rfl rfl ?_
  refine ev_iconst (pc := 22) dX7_begin_22 ?_
  refine evB_putI (pc := 23) (c9 := 7) (k9 := 7) (kI := 7) dX7_begin_23 fl_St_34 hs2 (by decide) (fun q hq => by cases hq; rfl) rfl rfl rfl ?_
  refine ev_puG hL (fun h9 hL => ?_)
  refine ev_aload_n (pc := 26) (i := 0) dX7_begin_26 rfl rfl ?_
  refine ev_iconst (pc := 27) dX7_begin_27 ?_
  refine evB_putI (pc := 28) (c9 := 7) (k9 := 8) (kI := 8) dX7_begin_28 fl_St_37 hs2 (by decide) (fun q hq => by cases hq; rfl) rfl rfl rfl ?_
  refine ev_puG hL (fun h10 hL => ?_)
  refine ev_iconst (pc := 31) dX7_begin_31 ?_
  refine ev_istore_n (pc := 32) (i := 2) dX7_begin_32 rfl (lnl_v (cat_aV _ _) rfl) (Nat.le_of_ble_eq_true rfl) ?_
  exact ev_le (lvle_s (lvle_s (lvle_s lvle_z))) (KSt_begin_b33  hL)
set_option maxHeartbeats 1000000 in
set_option maxRecDepth 100000 in
theorem M_Cc_settle {ω : Wd} {z : Nat → Prop} {h h' : Hp} {a0 r : Int}  (hL : Cc_settle h a0 = some (r, h')) : CtB ω N_Cc_settle 50 [aV ω a0] z h (some (iV r)) h' := by
  unfold Cc_settle at hL
  refine Ct_of (lv := [some (aV ω a0), none]) (by decide) (Nat.le_trans (sl_1 (cat_aV _ _) sl_z) (Nat.le_of_ble_eq_true rfl)) (la_1 (cat_aV _ _) (la_n la_z)) ?_
  refine ev_aload_n (pc := 0) (i := 0) dX9_settle_0 rfl rfl ?_
  obtain ⟨hs1, hL⟩ := cC_un hL
  refine ev_get (pc := 1) (c9 := 9) (k9 := 1) dX9_settle_1 fl_Cc_19 (by decide) hs1 gv9_1 ?_
  refine ev_astore_n (pc := 4) (i := 1) (isA_aV _ _) dX9_settle_4 rfl (lnl_v (cat_aV _ _) rfl) (Nat.le_of_ble_eq_true rfl) ?_
  refine ev_aload_n (pc := 5) (i := 0) dX9_settle_5 rfl rfl ?_
  refine ev_aload_n (pc := 6) (i := 0) dX9_settle_6 rfl rfl ?_
  refine ev_get (pc := 7) (c9 := 9) (k9 := 2) dX9_settle_7 fl_Cc_23 (by decide) hs1 gv9_2 ?_
  refine evB_putA (pc := 10) (c9 := 9) (k9 := 1) (kI := 1) dX9_settle_10 fl_Cc_19 hs1 (by decide) (fun q hq => by cases hq; rfl) rfl rfl rfl ?_
  refine ev_puG hL (fun h2 hL => ?_)
  refine ev_aload_n (pc := 13) (i := 0) dX9_settle_13 rfl rfl ?_
  refine ev_aload_n (pc := 14) (i := 1) dX9_settle_14 rfl rfl ?_
  refine evB_putA (pc := 15) (c9 := 9) (k9 := 2) (kI := 2) dX9_settle_15 fl_Cc_23 hs1 (by decide) (fun q hq => by cases hq; rfl) rfl rfl rfl ?_
  refine ev_puG hL (fun h3 hL => ?_)
  refine ev_aload_n (pc := 18) (i := 0) dX9_settle_18 rfl rfl ?_
  refine ev_get (pc := 19) (c9 := 9) (k9 := 9) dX9_settle_19 fl_Cc_54 (by decide) hs1 (gv9_9 hs1) ?_
  refine ev_aload_n (pc := 22) (i := 0) dX9_settle_22 rfl rfl ?_
  refine ev_get (pc := 23) (c9 := 9) (k9 := 1) dX9_settle_23 fl_Cc_19 (by decide) hs1 gv9_1 ?_
  obtain ⟨hs4, hL⟩ := cC_un hL
  obtain ⟨r5, h6, hc7, hL⟩ := cl_un hL
  refine evB_callV_V (pc := 26) (M_St_begin hc7) dX9_settle_26 mt_St_begin st_St_begin ml_Cc_405 hs4 (by decide) ⟨_, rfl, rfl⟩ (Nat.le_of_ble_eq_true rfl) rfl rfl (Nat.le_trans sm_z (by decide)) ?_
  refine ev_aload_n (pc := 29) (i := 0) dX9_settle_29 rfl rfl ?_
  refine ev_get (pc := 30) (c9 := 9) (k9 := 10) dX9_settle_30 fl_Cc_58 (by decide) hs1 (gv9_10 hs1) ?_
  refine ev_aload_n (pc := 33) (i := 0) dX9_settle_33 rfl rfl ?_
  refine ev_get (pc := 34) (c9 := 9) (k9 := 9) dX9_settle_34 fl_Cc_54 (by decide) hs1 (gv9_9 hs1) ?_
  obtain ⟨hs8, hL⟩ := cC_un hL
  obtain ⟨r9, h10, hc11, hL⟩ := cl_un hL
  refine evB_callV_V (pc := 37) (M_St_copy hc11) dX9_settle_37 mt_St_copy st_St_copy ml_Cc_262 hs8 (by decide) ⟨_, rfl, rfl⟩ (Nat.le_of_ble_eq_true rfl) rfl rfl (Nat.le_trans sm_z (by decide)) ?_
  refine ev_aload_n (pc := 40) (i := 0) dX9_settle_40 rfl rfl ?_
  refine ev_get (pc := 41) (c9 := 9) (k9 := 14) dX9_settle_41 fl_Cc_75 (by decide) hs1 (gv9_14 hs1) ?_
  obtain ⟨hs12, hL⟩ := cC_un hL
  obtain ⟨r13, h14, hc15, hL⟩ := cl_un hL
  refine evB_callV_V (pc := 44) (M_Ps_forget hc15) dX9_settle_44 mt_Ps_forget st_Ps_forget ml_Cc_388 hs12 (by decide) ⟨_, rfl, rfl⟩ (Nat.le_of_ble_eq_true rfl) rfl rfl (Nat.le_trans sm_z (by decide)) ?_
  refine ev_aload_n (pc := 47) (i := 0) dX9_settle_47 rfl rfl ?_
  refine ev_iconst (pc := 48) dX9_settle_48 ?_
  refine evB_putZ (pc := 49) (c9 := 9) (k9 := 12) (kI := 12) dX9_settle_49 fl_Cc_64 hs1 (by decide) (fun q hq => by cases hq; rfl) rfl rfl (by decide) rfl ?_
  refine ev_puG hL (fun h16 hL => ?_)
  refine ev_aload_n (pc := 52) (i := 0) dX9_settle_52 rfl rfl ?_
  refine ev_get (pc := 53) (c9 := 9) (k9 := 16) dX9_settle_53 fl_Cc_89 (by decide) hs1 (gv9_16 hs1) ?_
  refine ev_iconst (pc := 56) dX9_settle_56 ?_
  obtain ⟨hs17, hL⟩ := cC_un hL
  refine evB_putI (pc := 57) (c9 := 1) (k9 := 4) (kI := 4) dX9_settle_57 fl_Cc_323 hs17 (by decide) (fun q hq => by cases hq; rfl) rfl rfl rfl ?_
  refine ev_puG hL (fun h18 hL => ?_)
  refine ev_aload_n (pc := 60) (i := 0) dX9_settle_60 rfl rfl ?_
  refine ev_get (pc := 61) (c9 := 9) (k9 := 17) dX9_settle_61 fl_Cc_96 (by decide) hs1 (gv9_17 hs1) ?_
  refine ev_aload_n (pc := 64) (i := 0) dX9_settle_64 rfl rfl ?_
  refine ev_get (pc := 65) (c9 := 9) (k9 := 1) dX9_settle_65 fl_Cc_19 (by decide) hs1 gv9_1 ?_
  obtain ⟨hs19, hL⟩ := cC_un hL
  refine ev_get (pc := 68) (c9 := 0) (k9 := 4) dX9_settle_68 fl_Cc_391 (by decide) hs19 gv0_4 ?_
  obtain ⟨hs20, hL⟩ := cC_un hL
  obtain ⟨r21, h22, hc23, hL⟩ := cl_un hL
  refine evB_callV_V (pc := 71) (M_Rw_make hc23) dX9_settle_71 mt_Rw_make st_Rw_make ml_Cc_409 hs20 (by decide) ⟨_, rfl, rfl⟩ (Nat.le_of_ble_eq_true rfl) rfl rfl (Nat.le_trans sm_z (by decide)) ?_
  refine ev_aload_n (pc := 74) (i := 0) dX9_settle_74 rfl rfl ?_
  refine ev_get (pc := 75) (c9 := 9) (k9 := 1) dX9_settle_75 fl_Cc_19 (by decide) hs1 gv9_1 ?_
  obtain ⟨hs24, hL⟩ := cC_un hL
  refine ev_get (pc := 78) (c9 := 0) (k9 := 4) dX9_settle_78 fl_Cc_391 (by decide) hs24 gv0_4 ?_
  exact evB_iret (pc := 81) dX9_settle_81 rfl hL
set_option maxHeartbeats 1000000 in
set_option maxRecDepth 100000 in
theorem M_Cc_sin {ω : Wd} {z : Nat → Prop} {h h' : Hp} {a0 a1 r : Int}  (hL : Cc_sin h a0 a1 = some (r, h')) : CtB ω N_Cc_sin 1 [aV ω a0, iV a1] z h (some (iV r)) h' := by
  unfold Cc_sin at hL
  refine Ct_of (lv := [some (aV ω a0), some (iV a1)]) (by decide) (Nat.le_trans (sl_1 (cat_aV _ _) (sl_1 (cat_iV _) sl_z)) (Nat.le_of_ble_eq_true rfl)) (la_1 (cat_aV _ _) (la_1 (cat_iV _) la_z)) ?_
  refine ev_iload_n (pc := 0) (i := 1) dX9_sin_0 rfl rfl ?_
  refine ev_if_lt (pc := 1) (tgt := 18) dX9_sin_1 rfl hL rfl (fun hL => ?_) (fun hL => ?_)
  · refine ev_iconst (pc := 18) dX9_sin_18 ?_
    exact evB_zret (pc := 19) dX9_sin_19 rfl rfl hL
  · refine ev_iload_n (pc := 4) (i := 1) dX9_sin_4 rfl rfl ?_
    refine ev_bipush (pc := 5) dX9_sin_5 (by decide) ?_
    refine ev_icmp_gt (pc := 7) (tgt := 18) dX9_sin_7 rfl hL rfl (fun hL => ?_) (fun hL => ?_)
    · refine ev_iconst (pc := 18) dX9_sin_18 ?_
      exact evB_zret (pc := 19) dX9_sin_19 rfl rfl hL
    · refine ev_iload_n (pc := 10) (i := 1) dX9_sin_10 rfl rfl ?_
      refine ev_aload_n (pc := 11) (i := 0) dX9_sin_11 rfl rfl ?_
      obtain ⟨hs1, hL⟩ := cC_un hL
      refine ev_get (pc := 12) (c9 := 9) (k9 := 8) dX9_sin_12 fl_Cc_48 (by decide) hs1 gv9_8 ?_
      refine ev_icmp_ne (pc := 15) (tgt := 20) dX9_sin_15 rfl hL rfl (fun hL => ?_) (fun hL => ?_)
      · refine ev_iconst (pc := 18) dX9_sin_18 ?_
        exact evB_zret (pc := 19) dX9_sin_19 rfl rfl hL
      · refine ev_aload_n (pc := 20) (i := 0) dX9_sin_20 rfl rfl ?_
        refine ev_iload_n (pc := 21) (i := 1) dX9_sin_21 rfl rfl ?_
        refine evB_putI (pc := 22) (c9 := 9) (k9 := 8) (kI := 8) dX9_sin_22 fl_Cc_48 hs1 (by decide) (fun q hq => by cases hq; rfl) rfl rfl rfl ?_
        refine ev_puG hL (fun h2 hL => ?_)
        refine ev_iconst (pc := 25) dX9_sin_25 ?_
        exact evB_zret (pc := 26) dX9_sin_26 rfl rfl hL
set_option maxHeartbeats 1000000 in
set_option maxRecDepth 100000 in
theorem M_Cc_sinAhead {ω : Wd} {z : Nat → Prop} {h h' : Hp} {a0 r : Int}  (hL : Cc_sinAhead h a0 = some (r, h')) : CtB ω N_Cc_sinAhead 4 [aV ω a0] z h none h' := by
  unfold Cc_sinAhead at hL
  refine Ct_of (lv := [some (aV ω a0), none, none, none]) (by decide) (Nat.le_trans (sl_1 (cat_aV _ _) sl_z) (Nat.le_of_ble_eq_true rfl)) (la_1 (cat_aV _ _) (la_n (la_n (la_n la_z)))) ?_
  refine ev_aload_n (pc := 0) (i := 0) dX9_sinAhead_0 rfl rfl ?_
  refine ev_bipush (pc := 1) dX9_sinAhead_1 (by decide) ?_
  obtain ⟨hs1, hL⟩ := cC_un hL
  obtain ⟨r2, h3, hc4, hL⟩ := cl_un hL
  refine evB_callV_I (pc := 3) (M_Cc_draw hc4) dX9_sinAhead_3 mt_Cc_draw st_Cc_draw ml_Cc_422 hs1 (by decide) ⟨_, rfl, rfl⟩ (Nat.le_of_ble_eq_true rfl) rfl rfl (Nat.le_trans sm_z (by decide)) ?_
  refine ev_aload_n (pc := 6) (i := 0) dX9_sinAhead_6 rfl rfl ?_
  refine ev_get (pc := 7) (c9 := 9) (k9 := 8) dX9_sinAhead_7 fl_Cc_48 (by decide) hs1 gv9_8 ?_
  refine ev_icmp_lt (pc := 10) (tgt := 14) dX9_sinAhead_10 rfl hL rfl (fun hL => ?_) (fun hL => ?_)
  · refine ev_aload_n (pc := 14) (i := 0) dX9_sinAhead_14 rfl rfl ?_
    refine ev_aload_n (pc := 15) (i := 0) dX9_sinAhead_15 rfl rfl ?_
    refine ev_get (pc := 16) (c9 := 9) (k9 := 10) dX9_sinAhead_16 fl_Cc_58 (by decide) hs1 (gv9_10 hs1) ?_
    obtain ⟨hs5, hL⟩ := cC_un hL
    refine ev_get (pc := 19) (c9 := 7) (k9 := 4) dX9_sinAhead_19 fl_Cc_282 (by decide) hs5 gv7_4 ?_
    obtain ⟨r6, h7, hc8, hL⟩ := cl_un hL
    refine evB_callV_I (pc := 22) (M_Cc_draw hc8) dX9_sinAhead_22 mt_Cc_draw st_Cc_draw ml_Cc_422 hs1 (by decide) ⟨_, rfl, rfl⟩ (Nat.le_of_ble_eq_true rfl) rfl rfl (Nat.le_trans sm_z (by decide)) ?_
    refine ev_istore_n (pc := 25) (i := 1) dX9_sinAhead_25 rfl (lnl_v (cat_aV _ _) rfl) (Nat.le_of_ble_eq_true rfl) ?_
    refine ev_aload_n (pc := 26) (i := 0) dX9_sinAhead_26 rfl rfl ?_
    refine ev_aload_n (pc := 27) (i := 0) dX9_sinAhead_27 rfl rfl ?_
    refine ev_get (pc := 28) (c9 := 9) (k9 := 10) dX9_sinAhead_28 fl_Cc_58 (by decide) hs1 (gv9_10 hs1) ?_
    refine ev_get (pc := 31) (c9 := 7) (k9 := 4) dX9_sinAhead_31 fl_Cc_282 (by decide) hs5 gv7_4 ?_
    obtain ⟨r9, h10, hc11, hL⟩ := cl_un hL
    refine evB_callV_I (pc := 34) (M_Cc_draw hc11) dX9_sinAhead_34 mt_Cc_draw st_Cc_draw ml_Cc_422 hs1 (by decide) ⟨_, rfl, rfl⟩ (Nat.le_of_ble_eq_true rfl) rfl rfl (Nat.le_trans sm_z (by decide)) ?_
    refine ev_istore_n (pc := 37) (i := 2) dX9_sinAhead_37 rfl (lnl_v rfl rfl) (Nat.le_of_ble_eq_true rfl) ?_
    refine ev_aload_n (pc := 38) (i := 0) dX9_sinAhead_38 rfl rfl ?_
    refine ev_bipush (pc := 39) dX9_sinAhead_39 (by decide) ?_
    obtain ⟨r12, h13, hc14, hL⟩ := cl_un hL
    refine evB_callV_I (pc := 41) (M_Cc_draw hc14) dX9_sinAhead_41 mt_Cc_draw st_Cc_draw ml_Cc_422 hs1 (by decide) ⟨_, rfl, rfl⟩ (Nat.le_of_ble_eq_true rfl) rfl rfl (Nat.le_trans sm_z (by decide)) ?_
    refine ev_iconst (pc := 44) dX9_sinAhead_44 ?_
    refine ev_iadd (pc := 45) dX9_sinAhead_45 ?_
    refine ev_bdI hL (fun v15 hL => ?_)
    refine ev_istore_n (pc := 46) (i := 3) dX9_sinAhead_46 rfl (lnl_v rfl rfl) (Nat.le_of_ble_eq_true rfl) ?_
    refine ev_iload_n (pc := 47) (i := 1) dX9_sinAhead_47 rfl rfl ?_
    refine ev_iload_n (pc := 48) (i := 2) dX9_sinAhead_48 rfl rfl ?_
    refine ev_icmp_eq (pc := 49) (tgt := 62) dX9_sinAhead_49 rfl hL rfl (fun hL => ?_) (fun hL => ?_)
    · exact evB_vret (pc := 62) dX9_sinAhead_62 rfl hL
    · refine ev_aload_n (pc := 52) (i := 0) dX9_sinAhead_52 rfl rfl ?_
      refine ev_get (pc := 53) (c9 := 9) (k9 := 10) dX9_sinAhead_53 fl_Cc_58 (by decide) hs1 (gv9_10 hs1) ?_
      refine ev_iload_n (pc := 56) (i := 1) dX9_sinAhead_56 rfl rfl ?_
      refine ev_iload_n (pc := 57) (i := 2) dX9_sinAhead_57 rfl rfl ?_
      refine ev_iload_n (pc := 58) (i := 3) dX9_sinAhead_58 rfl rfl ?_
      obtain ⟨r16, h17, hc18, hL⟩ := cl_un hL
      refine evB_callV_V (pc := 59) (M_St_owe hc18) dX9_sinAhead_59 mt_St_owe st_St_owe ml_Cc_418 hs5 (by decide) ⟨_, rfl, rfl⟩ (Nat.le_of_ble_eq_true rfl) rfl rfl (Nat.le_trans sm_z (by decide)) ?_
      exact evB_vret (pc := 62) dX9_sinAhead_62 rfl hL
  · exact evB_vret (pc := 13) dX9_sinAhead_13 rfl hL
set_option maxHeartbeats 1000000 in
set_option maxRecDepth 100000 in
theorem KCc_sooner_b45_body {ω : Wd} {z : Nat → Prop}  {k45 : Hp × Int × Int × Int → Option (Int × Hp)} {h h' : Hp} {x0 x1 x2 r : Int}  (hk45 : ∀ s o, k45 s = some o → EvB ω N_Cc_sooner 4 (QB (some (iV o.1)) z o.2) z s.1 45 [some (aV ω s.2.1), some (iV s.2.2.1), some (iV s.2.2.2), none] []) (hL : Cc_sooner_b45_body  k45 h x0 x1 x2 = some (r, h')) : EvB ω N_Cc_sooner 4 (QB (some (iV r)) z h') z h 45 [some (aV ω x0), some (iV x1), some (iV x2), none] [] := by
  unfold Cc_sooner_b45_body at hL
  refine ev_iload_n (pc := 45) (i := 2) dX9_sooner_45 rfl rfl ?_
  refine ev_iconst (pc := 46) dX9_sooner_46 ?_
  refine ev_aload_n (pc := 47) (i := 0) dX9_sooner_47 rfl rfl ?_
  obtain ⟨hs11, hL⟩ := cC_un hL
  refine ev_get (pc := 48) (c9 := 9) (k9 := 10) dX9_sooner_48 fl_Cc_58 (by decide) hs11 (gv9_10 hs11) ?_
  obtain ⟨hs12, hL⟩ := cC_un hL
  refine ev_get (pc := 51) (c9 := 7) (k9 := 4) dX9_sooner_51 fl_Cc_282 (by decide) hs12 gv7_4 ?_
  refine ev_ishl (pc := 54) dX9_sooner_54 ?_
  refine ev_icmp_ge (pc := 55) (tgt := 112) dX9_sooner_55 rfl hL rfl (fun hL => ?_) (fun hL => ?_)
  · refine ev_iload_n (pc := 58) (i := 2) dX9_sooner_58 rfl rfl ?_
    obtain ⟨r13, h14, hc15, hL⟩ := cl_un hL
    refine evB_callS_I (pc := 59) (M_Ji_bitCount hc15) dX9_sooner_59 mt_Ji_bitCount st_Ji_bitCount ml_Cc_297 (Nat.le_of_ble_eq_true rfl) rfl rfl (Nat.le_trans sm_z (by decide)) ?_
    refine ev_istore_n (pc := 62) (i := 3) dX9_sooner_62 rfl (lnl_v rfl rfl) (Nat.le_of_ble_eq_true rfl) ?_
    refine ev_iload_n (pc := 63) (i := 3) dX9_sooner_63 rfl rfl ?_
    refine ev_iconst (pc := 64) dX9_sooner_64 ?_
    refine ev_icmp_ne (pc := 65) (tgt := 84) dX9_sooner_65 rfl hL rfl (fun hL => ?_) (fun hL => ?_)
    · refine ev_iload_n (pc := 68) (i := 1) dX9_sooner_68 rfl rfl ?_
      refine ev_aload_n (pc := 69) (i := 0) dX9_sooner_69 rfl rfl ?_
      refine ev_get (pc := 70) (c9 := 9) (k9 := 10) dX9_sooner_70 fl_Cc_58 (by decide) hs11 (gv9_10 hs11) ?_
      refine ev_iload_n (pc := 73) (i := 2) dX9_sooner_73 rfl rfl ?_
      obtain ⟨r16, h17, hc18, hL⟩ := cl_un hL
      refine evB_callV_I (pc := 74) (M_St_debtWithin hc18) dX9_sooner_74 mt_St_debtWithin st_St_debtWithin ml_Cc_302 hs12 (by decide) ⟨_, rfl, rfl⟩ (Nat.le_of_ble_eq_true rfl) rfl rfl (Nat.le_trans (sm_1 (cat_iV _) sm_z) (by decide)) ?_
      refine ev_max (pc := 77) dX9_sooner_77 wm_Cc_292 w_s_max w_i_Math w_k_max (Nat.le_trans sm_z (by decide)) (Nat.le_of_ble_eq_true rfl) (Nat.le_refl _) (Nat.le_refl _) ?_
      refine ev_bdI hL (fun v19 hL => ?_)
      refine ev_istore_n (pc := 80) (i := 1) dX9_sooner_80 rfl (lnl_v (cat_aV _ _) rfl) (Nat.le_of_ble_eq_true rfl) ?_
      refine ev_goto (pc := 81) (tgt := 106) dX9_sooner_81 rfl ?_
      refine ev_iinc (pc := 106) dX9_sooner_106 rfl (lnl_v rfl rfl) (Nat.le_of_ble_eq_true rfl) ?_
      refine ev_goto (pc := 109) (tgt := 45) dX9_sooner_109 rfl ?_
      exact ev_le (lvle_s (lvle_s (lvle_s (lvle_n lvle_z)))) (hk45 _ _ hL)
    · refine ev_iload_n (pc := 84) (i := 3) dX9_sooner_84 rfl rfl ?_
      refine ev_iconst (pc := 85) dX9_sooner_85 ?_
      refine ev_icmp_ne (pc := 86) (tgt := 106) dX9_sooner_86 rfl hL rfl (fun hL => ?_) (fun hL => ?_)
      · refine ev_iload_n (pc := 89) (i := 1) dX9_sooner_89 rfl rfl ?_
        refine ev_aload_n (pc := 90) (i := 0) dX9_sooner_90 rfl rfl ?_
        refine ev_get (pc := 91) (c9 := 9) (k9 := 10) dX9_sooner_91 fl_Cc_58 (by decide) hs11 (gv9_10 hs11) ?_
        refine ev_iload_n (pc := 94) (i := 2) dX9_sooner_94 rfl rfl ?_
        obtain ⟨r20, h21, hc22, hL⟩ := cl_un hL
        refine evB_callV_I (pc := 95) (M_St_debtWithin hc22) dX9_sooner_95 mt_St_debtWithin st_St_debtWithin ml_Cc_302 hs12 (by decide) ⟨_, rfl, rfl⟩ (Nat.le_of_ble_eq_true rfl) rfl rfl (Nat.le_trans (sm_1 (cat_iV _) sm_z) (by decide)) ?_
        refine ev_iconst (pc := 98) dX9_sooner_98 ?_
        refine ev_iadd (pc := 99) dX9_sooner_99 ?_
        refine ev_iconst (pc := 100) dX9_sooner_100 ?_
        refine ev_idiv (pc := 101) dX9_sooner_101 hL (fun hL => ?_)
        refine ev_max (pc := 102) dX9_sooner_102 wm_Cc_292 w_s_max w_i_Math w_k_max (Nat.le_trans sm_z (by decide)) (Nat.le_of_ble_eq_true rfl) (Nat.le_refl _) (Nat.le_refl _) ?_
        refine ev_bdI hL (fun v23 hL => ?_)
        refine ev_istore_n (pc := 105) (i := 1) dX9_sooner_105 rfl (lnl_v (cat_aV _ _) rfl) (Nat.le_of_ble_eq_true rfl) ?_
        refine ev_iinc (pc := 106) dX9_sooner_106 rfl (lnl_v rfl rfl) (Nat.le_of_ble_eq_true rfl) ?_
        refine ev_goto (pc := 109) (tgt := 45) dX9_sooner_109 rfl ?_
        exact ev_le (lvle_s (lvle_s (lvle_s (lvle_n lvle_z)))) (hk45 _ _ hL)
      · refine ev_iinc (pc := 106) dX9_sooner_106 rfl (lnl_v rfl rfl) (Nat.le_of_ble_eq_true rfl) ?_
        refine ev_goto (pc := 109) (tgt := 45) dX9_sooner_109 rfl ?_
        exact ev_le (lvle_s (lvle_s (lvle_s (lvle_n lvle_z)))) (hk45 _ _ hL)
  · refine ev_iload_n (pc := 112) (i := 1) dX9_sooner_112 rfl rfl ?_
    exact evB_iret (pc := 113) dX9_sooner_113 rfl hL
set_option maxHeartbeats 1000000 in
set_option maxRecDepth 100000 in
theorem KCc_sooner_b45 {ω : Wd} {z : Nat → Prop}  {h h' : Hp} {x0 x1 x2 r : Int}  (hL : Cc_sooner_b45 h x0 x1 x2 = some (r, h')) : EvB ω N_Cc_sooner 4 (QB (some (iV r)) z h') z h 45 [some (aV ω x0), some (iV x1), some (iV x2), none] [] := by
  unfold Cc_sooner_b45 at hL
  refine itr_link (P := fun (s : Hp × Int × Int × Int) (o : Int × Hp) => EvB ω N_Cc_sooner 4 (QB (some (iV o.1)) z o.2) z s.1 45 [some (aV ω s.2.1), some (iV s.2.2.1), some (iV s.2.2.2), none] []) ?_ _ _ _ hL
  intro k hk s o h9
  have h10 := KCc_sooner_b45_body (ω := ω) (z := z) (k45 := k) (h := s.1) (x0 := s.2.1) (x1 := s.2.2.1) (x2 := s.2.2.2) (r := o.1) (h' := o.2) 
  exact h10 hk h9
set_option maxHeartbeats 1000000 in
set_option maxRecDepth 100000 in
theorem KCc_sooner_b13_body {ω : Wd} {z : Nat → Prop}  {k13 : Hp × Int × Int × Int → Option (Int × Hp)} {h h' : Hp} {x0 x1 x2 r : Int}  (hk13 : ∀ s o, k13 s = some o → EvB ω N_Cc_sooner 4 (QB (some (iV o.1)) z o.2) z s.1 13 [some (aV ω s.2.1), some (iV s.2.2.1), some (iV s.2.2.2), none] []) (hL : Cc_sooner_b13_body  k13 h x0 x1 x2 = some (r, h')) : EvB ω N_Cc_sooner 4 (QB (some (iV r)) z h') z h 13 [some (aV ω x0), some (iV x1), some (iV x2), none] [] := by
  unfold Cc_sooner_b13_body at hL
  refine ev_iload_n (pc := 13) (i := 2) dX9_sooner_13 rfl rfl ?_
  refine ev_aload_n (pc := 14) (i := 0) dX9_sooner_14 rfl rfl ?_
  obtain ⟨hs5, hL⟩ := cC_un hL
  refine ev_get (pc := 15) (c9 := 9) (k9 := 10) dX9_sooner_15 fl_Cc_58 (by decide) hs5 (gv9_10 hs5) ?_
  obtain ⟨hs6, hL⟩ := cC_un hL
  refine ev_get (pc := 18) (c9 := 7) (k9 := 4) dX9_sooner_18 fl_Cc_282 (by decide) hs6 gv7_4 ?_
  refine ev_icmp_ge (pc := 21) (tgt := 43) dX9_sooner_21 rfl hL rfl (fun hL => ?_) (fun hL => ?_)
  · refine ev_iload_n (pc := 24) (i := 1) dX9_sooner_24 rfl rfl ?_
    refine ev_aload_n (pc := 25) (i := 0) dX9_sooner_25 rfl rfl ?_
    refine ev_get (pc := 26) (c9 := 9) (k9 := 10) dX9_sooner_26 fl_Cc_58 (by decide) hs5 (gv9_10 hs5) ?_
    refine ev_iload_n (pc := 29) (i := 2) dX9_sooner_29 rfl rfl ?_
    obtain ⟨r7, h8, hc9, hL⟩ := cl_un hL
    refine evB_callV_I (pc := 30) (M_St_debtOf hc9) dX9_sooner_30 mt_St_debtOf st_St_debtOf ml_Cc_151 hs6 (by decide) ⟨_, rfl, rfl⟩ (Nat.le_of_ble_eq_true rfl) rfl rfl (Nat.le_trans (sm_1 (cat_iV _) sm_z) (by decide)) ?_
    refine ev_max (pc := 33) dX9_sooner_33 wm_Cc_292 w_s_max w_i_Math w_k_max (Nat.le_trans sm_z (by decide)) (Nat.le_of_ble_eq_true rfl) (Nat.le_refl _) (Nat.le_refl _) ?_
    refine ev_bdI hL (fun v10 hL => ?_)
    refine ev_istore_n (pc := 36) (i := 1) dX9_sooner_36 rfl (lnl_v (cat_aV _ _) rfl) (Nat.le_of_ble_eq_true rfl) ?_
    refine ev_iinc (pc := 37) dX9_sooner_37 rfl (lnl_v rfl rfl) (Nat.le_of_ble_eq_true rfl) ?_
    refine ev_goto (pc := 40) (tgt := 13) dX9_sooner_40 rfl ?_
    exact ev_le (lvle_s (lvle_s (lvle_s (lvle_n lvle_z)))) (hk13 _ _ hL)
  · refine ev_iconst (pc := 43) dX9_sooner_43 ?_
    refine ev_istore_n (pc := 44) (i := 2) dX9_sooner_44 rfl (lnl_v rfl rfl) (Nat.le_of_ble_eq_true rfl) ?_
    exact ev_le (lvle_s (lvle_s (lvle_s (lvle_n lvle_z)))) (KCc_sooner_b45  hL)
set_option maxHeartbeats 1000000 in
set_option maxRecDepth 100000 in
theorem KCc_sooner_b13 {ω : Wd} {z : Nat → Prop}  {h h' : Hp} {x0 x1 x2 r : Int}  (hL : Cc_sooner_b13 h x0 x1 x2 = some (r, h')) : EvB ω N_Cc_sooner 4 (QB (some (iV r)) z h') z h 13 [some (aV ω x0), some (iV x1), some (iV x2), none] [] := by
  unfold Cc_sooner_b13 at hL
  refine itr_link (P := fun (s : Hp × Int × Int × Int) (o : Int × Hp) => EvB ω N_Cc_sooner 4 (QB (some (iV o.1)) z o.2) z s.1 13 [some (aV ω s.2.1), some (iV s.2.2.1), some (iV s.2.2.2), none] []) ?_ _ _ _ hL
  intro k hk s o h9
  have h10 := KCc_sooner_b13_body (ω := ω) (z := z) (k13 := k) (h := s.1) (x0 := s.2.1) (x1 := s.2.2.1) (x2 := s.2.2.2) (r := o.1) (h' := o.2) 
  exact h10 hk h9
set_option maxHeartbeats 1000000 in
set_option maxRecDepth 100000 in
theorem M_Cc_sooner {ω : Wd} {z : Nat → Prop} {h h' : Hp} {a0 r : Int}  (hL : Cc_sooner h a0 = some (r, h')) : CtB ω N_Cc_sooner 4 [aV ω a0] z h (some (iV r)) h' := by
  unfold Cc_sooner at hL
  refine Ct_of (lv := [some (aV ω a0), none, none, none]) (by decide) (Nat.le_trans (sl_1 (cat_aV _ _) sl_z) (Nat.le_of_ble_eq_true rfl)) (la_1 (cat_aV _ _) (la_n (la_n (la_n la_z)))) ?_
  refine ev_aload_n (pc := 0) (i := 0) dX9_sooner_0 rfl rfl ?_
  obtain ⟨hs1, hL⟩ := cC_un hL
  obtain ⟨r2, h3, hc4, hL⟩ := cl_un hL
  refine evB_callV_I (pc := 1) (M_Cc_isTold hc4) dX9_sooner_1 mt_Cc_isTold st_Cc_isTold ml_Cc_223 hs1 (by decide) ⟨_, rfl, rfl⟩ (Nat.le_of_ble_eq_true rfl) rfl rfl (Nat.le_trans sm_z (by decide)) ?_
  refine ev_if_ne (pc := 4) (tgt := 9) dX9_sooner_4 rfl hL rfl (fun hL => ?_) (fun hL => ?_)
  · refine ev_iconst (pc := 7) dX9_sooner_7 ?_
    exact evB_iret (pc := 8) dX9_sooner_8 rfl hL
  · refine ev_iconst (pc := 9) dX9_sooner_9 ?_
    refine ev_istore_n (pc := 10) (i := 1) dX9_sooner_10 rfl (lnl_v (cat_aV _ _) rfl) (Nat.le_of_ble_eq_true rfl) ?_
    refine ev_iconst (pc := 11) dX9_sooner_11 ?_
    refine ev_istore_n (pc := 12) (i := 2) dX9_sooner_12 rfl (lnl_v rfl rfl) (Nat.le_of_ble_eq_true rfl) ?_
    exact ev_le (lvle_s (lvle_s (lvle_s (lvle_n lvle_z)))) (KCc_sooner_b13  hL)
set_option maxHeartbeats 1000000 in
set_option maxRecDepth 100000 in
theorem M_Cc_step {ω : Wd} {z : Nat → Prop} {h h' : Hp} {a0 a1 a2 a3 r : Int}  (hL : Cc_step h a0 a1 a2 a3 = some (r, h')) : CtB ω N_Cc_step 3 [aV ω a0, iV a1, iV a2, iV a3] z h (some (iV r)) h' := by
  unfold Cc_step at hL
  refine Ct_of (lv := [some (aV ω a0), some (iV a1), some (iV a2), some (iV a3), none]) (by decide) (Nat.le_trans (sl_1 (cat_aV _ _) (sl_1 (cat_iV _) (sl_1 (cat_iV _) (sl_1 (cat_iV _) sl_z)))) (Nat.le_of_ble_eq_true rfl)) (la_1 (cat_aV _ _) (la_1 (cat_iV _) (la_1 (cat_iV _) (la_1 (cat_iV _) (la_n la_z))))) ?_
  refine ev_aload_n (pc := 0) (i := 0) dX9_step_0 rfl rfl ?_
  refine ev_iload_n (pc := 1) (i := 1) dX9_step_1 rfl rfl ?_
  obtain ⟨hs1, hL⟩ := cC_un hL
  obtain ⟨r2, h3, hc4, hL⟩ := cl_un hL
  refine evB_callV_I (pc := 2) (M_Cc_isSession hc4) dX9_step_2 mt_Cc_isSession st_Cc_isSession ml_Cc_246 hs1 (by decide) ⟨_, rfl, rfl⟩ (Nat.le_of_ble_eq_true rfl) rfl rfl (Nat.le_trans sm_z (by decide)) ?_
  refine ev_if_ne (pc := 5) (tgt := 11) dX9_step_5 rfl hL rfl (fun hL => ?_) (fun hL => ?_)
  · refine ev_ldc (pc := 8) (x := (-1000000)) dX9_step_8 w_c_Cc_249 ?_
    exact evB_iret (pc := 10) dX9_step_10 rfl hL
  · refine ev_aload_n (pc := 11) (i := 0) dX9_step_11 rfl rfl ?_
    refine ev_iload_n (pc := 12) (i := 1) dX9_step_12 rfl rfl ?_
    obtain ⟨r5, h6, hc7, hL⟩ := cl_un hL
    refine evB_callV_A (pc := 13) (M_Cc_sessionAt hc7) dX9_step_13 mt_Cc_sessionAt st_Cc_sessionAt ml_Cc_250 hs1 (by decide) ⟨_, rfl, rfl⟩ (Nat.le_of_ble_eq_true rfl) rfl rfl (Nat.le_trans sm_z (by decide)) ?_
    refine ev_astore (pc := 16) (isA_aV _ _) dX9_step_16 (lnl_v rfl rfl) (Nat.le_of_ble_eq_true rfl) ?_
    refine ev_iload_n (pc := 18) (i := 2) dX9_step_18 rfl rfl ?_
    refine ev_if_lt (pc := 19) (tgt := 40) dX9_step_19 rfl hL rfl (fun hL => ?_) (fun hL => ?_)
    · refine ev_ldc (pc := 40) (x := (-1000000)) dX9_step_40 w_c_Cc_249 ?_
      exact evB_iret (pc := 42) dX9_step_42 rfl hL
    · refine ev_iload_n (pc := 22) (i := 2) dX9_step_22 rfl rfl ?_
      refine ev_aload (pc := 23) dX9_step_23 rfl ?_
      obtain ⟨hs8, hL⟩ := cC_un hL
      refine ev_get (pc := 25) (c9 := 6) (k9 := 1) dX9_step_25 fl_Cc_254 (by decide) hs8 gv6_1 ?_
      refine ev_icmp_ge (pc := 28) (tgt := 40) dX9_step_28 rfl hL rfl (fun hL => ?_) (fun hL => ?_)
      · refine ev_iload_n (pc := 31) (i := 3) dX9_step_31 rfl rfl ?_
        refine ev_if_lt (pc := 32) (tgt := 40) dX9_step_32 rfl hL rfl (fun hL => ?_) (fun hL => ?_)
        · refine ev_ldc (pc := 40) (x := (-1000000)) dX9_step_40 w_c_Cc_249 ?_
          exact evB_iret (pc := 42) dX9_step_42 rfl hL
        · refine ev_iload_n (pc := 35) (i := 3) dX9_step_35 rfl rfl ?_
          refine ev_iconst (pc := 36) dX9_step_36 ?_
          refine ev_icmp_le (pc := 37) (tgt := 43) dX9_step_37 rfl hL rfl (fun hL => ?_) (fun hL => ?_)
          · refine ev_ldc (pc := 40) (x := (-1000000)) dX9_step_40 w_c_Cc_249 ?_
            exact evB_iret (pc := 42) dX9_step_42 rfl hL
          · refine ev_aload (pc := 43) dX9_step_43 rfl ?_
            refine ev_iload_n (pc := 45) (i := 2) dX9_step_45 rfl rfl ?_
            refine ev_iload_n (pc := 46) (i := 3) dX9_step_46 rfl rfl ?_
            obtain ⟨r9, h10, hc11, hL⟩ := cl_un hL
            refine evB_callV_I (pc := 47) (M_Ss_part hc11) dX9_step_47 mt_Ss_part st_Ss_part ml_Cc_255 hs8 (by decide) ⟨_, rfl, rfl⟩ (Nat.le_of_ble_eq_true rfl) rfl rfl (Nat.le_trans sm_z (by decide)) ?_
            exact evB_iret (pc := 50) dX9_step_50 rfl hL
      · refine ev_ldc (pc := 40) (x := (-1000000)) dX9_step_40 w_c_Cc_249 ?_
        exact evB_iret (pc := 42) dX9_step_42 rfl hL
set_option maxHeartbeats 1000000 in
set_option maxRecDepth 100000 in
theorem M_Cc_teach {ω : Wd} {z : Nat → Prop} {h h' : Hp} {a0 a1 r : Int}  (hL : Cc_teach h a0 a1 = some (r, h')) : CtB ω N_Cc_teach 4 [aV ω a0, iV a1] z h (some (iV r)) h' := by
  unfold Cc_teach at hL
  refine Ct_of (lv := [some (aV ω a0), some (iV a1)]) (by decide) (Nat.le_trans (sl_1 (cat_aV _ _) (sl_1 (cat_iV _) sl_z)) (Nat.le_of_ble_eq_true rfl)) (la_1 (cat_aV _ _) (la_1 (cat_iV _) la_z)) ?_
  refine ev_aload_n (pc := 0) (i := 0) dX9_teach_0 rfl rfl ?_
  refine ev_iload_n (pc := 1) (i := 1) dX9_teach_1 rfl rfl ?_
  obtain ⟨hs1, hL⟩ := cC_un hL
  obtain ⟨r2, h3, hc4, hL⟩ := cl_un hL
  refine evB_callV_I (pc := 2) (M_Cc_isPerson hc4) dX9_teach_2 mt_Cc_isPerson st_Cc_isPerson ml_Cc_132 hs1 (by decide) ⟨_, rfl, rfl⟩ (Nat.le_of_ble_eq_true rfl) rfl rfl (Nat.le_trans sm_z (by decide)) ?_
  refine ev_if_eq (pc := 5) (tgt := 30) dX9_teach_5 rfl hL rfl (fun hL => ?_) (fun hL => ?_)
  · refine ev_iconst (pc := 30) dX9_teach_30 ?_
    exact evB_iret (pc := 31) dX9_teach_31 rfl hL
  · refine ev_aload_n (pc := 8) (i := 0) dX9_teach_8 rfl rfl ?_
    refine ev_get (pc := 9) (c9 := 9) (k9 := 10) dX9_teach_9 fl_Cc_58 (by decide) hs1 (gv9_10 hs1) ?_
    obtain ⟨hs5, hL⟩ := cC_un hL
    refine ev_get (pc := 12) (c9 := 7) (k9 := 6) dX9_teach_12 fl_Cc_209 (by decide) hs5 gv7_6 ?_
    refine ev_iconst (pc := 15) dX9_teach_15 ?_
    refine ev_icmp_lt (pc := 16) (tgt := 30) dX9_teach_16 rfl hL rfl (fun hL => ?_) (fun hL => ?_)
    · refine ev_iconst (pc := 30) dX9_teach_30 ?_
      exact evB_iret (pc := 31) dX9_teach_31 rfl hL
    · refine ev_aload_n (pc := 19) (i := 0) dX9_teach_19 rfl rfl ?_
      refine ev_get (pc := 20) (c9 := 9) (k9 := 10) dX9_teach_20 fl_Cc_58 (by decide) hs1 (gv9_10 hs1) ?_
      refine ev_iload_n (pc := 23) (i := 1) dX9_teach_23 rfl rfl ?_
      obtain ⟨r6, h7, hc8, hL⟩ := cl_un hL
      refine evB_callV_I (pc := 24) (M_St_boreOf hc8) dX9_teach_24 mt_St_boreOf st_St_boreOf ml_Cc_145 hs5 (by decide) ⟨_, rfl, rfl⟩ (Nat.le_of_ble_eq_true rfl) rfl rfl (Nat.le_trans sm_z (by decide)) ?_
      refine ev_if_ne (pc := 27) (tgt := 32) dX9_teach_27 rfl hL rfl (fun hL => ?_) (fun hL => ?_)
      · refine ev_iconst (pc := 30) dX9_teach_30 ?_
        exact evB_iret (pc := 31) dX9_teach_31 rfl hL
      · refine ev_aload_n (pc := 32) (i := 0) dX9_teach_32 rfl rfl ?_
        refine ev_get (pc := 33) (c9 := 9) (k9 := 14) dX9_teach_33 fl_Cc_75 (by decide) hs1 (gv9_14 hs1) ?_
        refine ev_aload_n (pc := 36) (i := 0) dX9_teach_36 rfl rfl ?_
        refine ev_get (pc := 37) (c9 := 9) (k9 := 10) dX9_teach_37 fl_Cc_58 (by decide) hs1 (gv9_10 hs1) ?_
        obtain ⟨hs9, hL⟩ := cC_un hL
        obtain ⟨r10, h11, hc12, hL⟩ := cl_un hL
        refine evB_callV_V (pc := 40) (M_Ps_offer hc12) dX9_teach_40 mt_Ps_offer st_Ps_offer ml_Cc_173 hs9 (by decide) ⟨_, rfl, rfl⟩ (Nat.le_of_ble_eq_true rfl) rfl rfl (Nat.le_trans sm_z (by decide)) ?_
        refine ev_aload_n (pc := 43) (i := 0) dX9_teach_43 rfl rfl ?_
        refine ev_get (pc := 44) (c9 := 9) (k9 := 14) dX9_teach_44 fl_Cc_75 (by decide) hs1 (gv9_14 hs1) ?_
        obtain ⟨r13, h14, hc15, hL⟩ := cl_un hL
        refine evB_callV_V (pc := 47) (M_Ps_keep hc15) dX9_teach_47 mt_Ps_keep st_Ps_keep ml_Cc_181 hs9 (by decide) ⟨_, rfl, rfl⟩ (Nat.le_of_ble_eq_true rfl) rfl rfl (Nat.le_trans sm_z (by decide)) ?_
        refine ev_aload_n (pc := 50) (i := 0) dX9_teach_50 rfl rfl ?_
        refine ev_get (pc := 51) (c9 := 9) (k9 := 10) dX9_teach_51 fl_Cc_58 (by decide) hs1 (gv9_10 hs1) ?_
        refine ev_dup (pc := 54) dX9_teach_54 (cat_aV _ _) ?_
        refine ev_get (pc := 55) (c9 := 7) (k9 := 6) dX9_teach_55 fl_Cc_209 (by decide) hs5 gv7_6 ?_
        refine ev_iconst (pc := 58) dX9_teach_58 ?_
        refine ev_isub (pc := 59) dX9_teach_59 ?_
        refine evB_putI (pc := 60) (c9 := 7) (k9 := 6) (kI := 6) dX9_teach_60 fl_Cc_209 hs5 (by decide) (fun q hq => by cases hq; rfl) rfl rfl rfl ?_
        refine ev_puG hL (fun h16 hL => ?_)
        refine ev_aload_n (pc := 63) (i := 0) dX9_teach_63 rfl rfl ?_
        refine ev_get (pc := 64) (c9 := 9) (k9 := 10) dX9_teach_64 fl_Cc_58 (by decide) hs1 (gv9_10 hs1) ?_
        refine ev_get (pc := 67) (c9 := 7) (k9 := 2) dX9_teach_67 fl_Cc_216 (by decide) hs5 (gv7_2 hs5) ?_
        refine ev_iload_n (pc := 70) (i := 1) dX9_teach_70 rfl rfl ?_
        refine ev_aload_n (pc := 71) (i := 0) dX9_teach_71 rfl rfl ?_
        refine ev_get (pc := 72) (c9 := 9) (k9 := 10) dX9_teach_72 fl_Cc_58 (by decide) hs1 (gv9_10 hs1) ?_
        refine ev_iload_n (pc := 75) (i := 1) dX9_teach_75 rfl rfl ?_
        obtain ⟨r17, h18, hc19, hL⟩ := cl_un hL
        refine evB_callV_I (pc := 76) (M_St_boreOf hc19) dX9_teach_76 mt_St_boreOf st_St_boreOf ml_Cc_145 hs5 (by decide) ⟨_, rfl, rfl⟩ (Nat.le_of_ble_eq_true rfl) rfl rfl (Nat.le_trans (sm_1 (cat_iV _) (sm_1 (cat_aV _ _) sm_z)) (by decide)) ?_
        refine ev_iconst (pc := 79) dX9_teach_79 ?_
        refine ev_isub (pc := 80) dX9_teach_80 ?_
        obtain ⟨r20, h21, hc22, hL⟩ := cl_un hL
        refine evB_callS_V (pc := 81) (M_Cc_put hc22) dX9_teach_81 mt_Cc_put st_Cc_put ml_Cc_219 (Nat.le_of_ble_eq_true rfl) rfl rfl (Nat.le_trans sm_z (by decide)) ?_
        refine ev_aload_n (pc := 84) (i := 0) dX9_teach_84 rfl rfl ?_
        refine ev_get (pc := 85) (c9 := 9) (k9 := 10) dX9_teach_85 fl_Cc_58 (by decide) hs1 (gv9_10 hs1) ?_
        refine ev_iload_n (pc := 88) (i := 1) dX9_teach_88 rfl rfl ?_
        obtain ⟨r23, h24, hc25, hL⟩ := cl_un hL
        refine evB_callV_I (pc := 89) (M_St_boreOf hc25) dX9_teach_89 mt_St_boreOf st_St_boreOf ml_Cc_145 hs5 (by decide) ⟨_, rfl, rfl⟩ (Nat.le_of_ble_eq_true rfl) rfl rfl (Nat.le_trans sm_z (by decide)) ?_
        exact evB_iret (pc := 92) dX9_teach_92 rfl hL
set_option maxHeartbeats 1000000 in
set_option maxRecDepth 100000 in
theorem KCc_text_b39 {ω : Wd} {z : Nat → Prop}  {h h' : Hp} {x0 x1 r : Int}  (hL : Cc_text_b39 h x0 x1 = some (r, h')) : EvB ω N_Cc_text 847 (QB (some (iV r)) z h') z h 39 [some (aV ω x0), some (iV x1)] [] := by
  unfold Cc_text_b39 at hL
  refine ev_aload_n (pc := 39) (i := 0) dX9_text_39 rfl rfl ?_
  refine ev_iload_n (pc := 40) (i := 1) dX9_text_40 rfl rfl ?_
  obtain ⟨hs3, hL⟩ := cC_un hL
  obtain ⟨r4, h5, hc6, hL⟩ := cl_un hL
  refine evB_callV_I (pc := 41) (M_Cc_readAs hc6) dX9_text_41 mt_Cc_readAs st_Cc_readAs ml_Cc_121 hs3 (by decide) ⟨_, rfl, rfl⟩ (Nat.le_of_ble_eq_true rfl) rfl rfl (Nat.le_trans sm_z (by decide)) ?_
  refine ev_if_ne (pc := 44) (tgt := 49) dX9_text_44 rfl hL rfl (fun hL => ?_) (fun hL => ?_)
  · refine ev_iconst (pc := 47) dX9_text_47 ?_
    exact evB_iret (pc := 48) dX9_text_48 rfl hL
  · refine ev_aload_n (pc := 49) (i := 0) dX9_text_49 rfl rfl ?_
    refine ev_get (pc := 50) (c9 := 9) (k9 := 0) dX9_text_50 fl_Cc_10 (by decide) hs3 (gv9_0 hs3) ?_
    refine ev_iconst (pc := 53) dX9_text_53 ?_
    obtain ⟨hs7, hL⟩ := cC_un hL
    refine evB_putI (pc := 54) (c9 := 8) (k9 := 1) (kI := 1) dX9_text_54 fl_Cc_114 hs7 (by decide) (fun q hq => by cases hq; rfl) rfl rfl rfl ?_
    refine ev_puG hL (fun h8 hL => ?_)
    refine ev_iload_n (pc := 57) (i := 1) dX9_text_57 rfl rfl ?_
    refine ev_iconst (pc := 58) dX9_text_58 ?_
    refine ev_icmp_ne (pc := 59) (tgt := 74) dX9_text_59 rfl hL rfl (fun hL => ?_) (fun hL => ?_)
    · refine ev_aload_n (pc := 62) (i := 0) dX9_text_62 rfl rfl ?_
      refine ev_dup (pc := 63) dX9_text_63 (cat_aV _ _) ?_
      refine ev_get (pc := 64) (c9 := 9) (k9 := 5) dX9_text_64 fl_Cc_38 (by decide) hs3 gv9_5 ?_
      refine ev_dup_x1 (pc := 67) dX9_text_67 rfl (cat_aV _ _) ?_
      refine ev_iconst (pc := 68) dX9_text_68 ?_
      refine ev_iadd (pc := 69) dX9_text_69 ?_
      refine evB_putI (pc := 70) (c9 := 9) (k9 := 5) (kI := 5) dX9_text_70 fl_Cc_38 hs3 (by decide) (fun q hq => by cases hq; rfl) rfl rfl rfl ?_
      refine ev_puG hL (fun h9 hL => ?_)
      exact evB_iret (pc := 73) dX9_text_73 rfl hL
    · refine ev_iload_n (pc := 74) (i := 1) dX9_text_74 rfl rfl ?_
      refine ev_iconst (pc := 75) dX9_text_75 ?_
      refine ev_icmp_ne (pc := 76) (tgt := 93) dX9_text_76 rfl hL rfl (fun hL => ?_) (fun hL => ?_)
      · refine ev_aload_n (pc := 79) (i := 0) dX9_text_79 rfl rfl ?_
        refine ev_dup (pc := 80) dX9_text_80 (cat_aV _ _) ?_
        refine ev_get (pc := 81) (c9 := 9) (k9 := 7) dX9_text_81 fl_Cc_45 (by decide) hs3 gv9_7 ?_
        refine ev_dup_x1 (pc := 84) dX9_text_84 rfl (cat_aV _ _) ?_
        refine ev_iconst (pc := 85) dX9_text_85 ?_
        refine ev_iadd (pc := 86) dX9_text_86 ?_
        refine evB_putI (pc := 87) (c9 := 9) (k9 := 7) (kI := 7) dX9_text_87 fl_Cc_45 hs3 (by decide) (fun q hq => by cases hq; rfl) rfl rfl rfl ?_
        refine ev_puG hL (fun h10 hL => ?_)
        refine ev_goto (pc := 90) (tgt := 97) dX9_text_90 rfl ?_
        exact evB_iret (pc := 97) dX9_text_97 rfl hL
      · refine ev_aload_n (pc := 93) (i := 0) dX9_text_93 rfl rfl ?_
        obtain ⟨r11, h12, hc13, hL⟩ := cl_un hL
        refine evB_callV_I (pc := 94) (M_Cc_settle hc13) dX9_text_94 mt_Cc_settle st_Cc_settle ml_Cc_128 hs3 (by decide) ⟨_, rfl, rfl⟩ (Nat.le_of_ble_eq_true rfl) rfl rfl (Nat.le_trans sm_z (by decide)) ?_
        exact evB_iret (pc := 97) dX9_text_97 rfl hL
set_option maxHeartbeats 1000000 in
set_option maxRecDepth 100000 in
theorem KCc_text_b24 {ω : Wd} {z : Nat → Prop}  {h h' : Hp} {x0 x1 r : Int}  (hL : Cc_text_b24 h x0 x1 = some (r, h')) : EvB ω N_Cc_text 847 (QB (some (iV r)) z h') z h 24 [some (aV ω x0), some (iV x1)] [] := by
  unfold Cc_text_b24 at hL
  refine ev_iload_n (pc := 24) (i := 1) dX9_text_24 rfl rfl ?_
  refine ev_iconst (pc := 25) dX9_text_25 ?_
  refine ev_icmp_ne (pc := 26) (tgt := 39) dX9_text_26 rfl hL rfl (fun hL => ?_) (fun hL => ?_)
  · refine ev_aload_n (pc := 29) (i := 0) dX9_text_29 rfl rfl ?_
    obtain ⟨hs2, hL⟩ := cC_un hL
    refine ev_get (pc := 30) (c9 := 9) (k9 := 7) dX9_text_30 fl_Cc_45 (by decide) hs2 gv9_7 ?_
    refine ev_iconst (pc := 33) dX9_text_33 ?_
    refine ev_icmp_lt (pc := 34) (tgt := 39) dX9_text_34 rfl hL rfl (fun hL => ?_) (fun hL => ?_)
    · exact ev_le (lvle_s (lvle_s lvle_z)) (KCc_text_b39  hL)
    · refine ev_iconst (pc := 37) dX9_text_37 ?_
      exact evB_iret (pc := 38) dX9_text_38 rfl hL
  · exact ev_le (lvle_s (lvle_s lvle_z)) (KCc_text_b39  hL)
set_option maxHeartbeats 1000000 in
set_option maxRecDepth 100000 in
theorem M_Cc_text {ω : Wd} {z : Nat → Prop} {h h' : Hp} {a0 a1 r : Int}  (hL : Cc_text h a0 a1 = some (r, h')) : CtB ω N_Cc_text 847 [aV ω a0, iV a1] z h (some (iV r)) h' := by
  unfold Cc_text at hL
  refine Ct_of (lv := [some (aV ω a0), some (iV a1)]) (by decide) (Nat.le_trans (sl_1 (cat_aV _ _) (sl_1 (cat_iV _) sl_z)) (Nat.le_of_ble_eq_true rfl)) (la_1 (cat_aV _ _) (la_1 (cat_iV _) la_z)) ?_
  refine ev_iload_n (pc := 0) (i := 1) dX9_text_0 rfl rfl ?_
  refine ev_if_lt (pc := 1) (tgt := 9) dX9_text_1 rfl hL rfl (fun hL => ?_) (fun hL => ?_)
  · refine ev_iconst (pc := 9) dX9_text_9 ?_
    exact evB_iret (pc := 10) dX9_text_10 rfl hL
  · refine ev_iload_n (pc := 4) (i := 1) dX9_text_4 rfl rfl ?_
    refine ev_iconst (pc := 5) dX9_text_5 ?_
    refine ev_icmp_le (pc := 6) (tgt := 11) dX9_text_6 rfl hL rfl (fun hL => ?_) (fun hL => ?_)
    · refine ev_iconst (pc := 9) dX9_text_9 ?_
      exact evB_iret (pc := 10) dX9_text_10 rfl hL
    · refine ev_iload_n (pc := 11) (i := 1) dX9_text_11 rfl rfl ?_
      refine ev_iconst (pc := 12) dX9_text_12 ?_
      refine ev_icmp_ne (pc := 13) (tgt := 24) dX9_text_13 rfl hL rfl (fun hL => ?_) (fun hL => ?_)
      · refine ev_aload_n (pc := 16) (i := 0) dX9_text_16 rfl rfl ?_
        obtain ⟨hs1, hL⟩ := cC_un hL
        refine ev_get (pc := 17) (c9 := 9) (k9 := 5) dX9_text_17 fl_Cc_38 (by decide) hs1 gv9_5 ?_
        refine ev_iconst (pc := 20) dX9_text_20 ?_
        refine ev_icmp_ge (pc := 21) (tgt := 37) dX9_text_21 rfl hL rfl (fun hL => ?_) (fun hL => ?_)
        · exact ev_le (lvle_s (lvle_s lvle_z)) (KCc_text_b24  hL)
        · refine ev_iconst (pc := 37) dX9_text_37 ?_
          exact evB_iret (pc := 38) dX9_text_38 rfl hL
      · exact ev_le (lvle_s (lvle_s lvle_z)) (KCc_text_b24  hL)
set_option maxHeartbeats 1000000 in
set_option maxRecDepth 100000 in
theorem M_Cc_tonight {ω : Wd} {z : Nat → Prop} {h h' : Hp} {a0 r : Int}  (hL : Cc_tonight h a0 = some (r, h')) : CtB ω N_Cc_tonight 5 [aV ω a0] z h (some (iV r)) h' := by
  unfold Cc_tonight at hL
  refine Ct_of (lv := [some (aV ω a0), none]) (by decide) (Nat.le_trans (sl_1 (cat_aV _ _) sl_z) (Nat.le_of_ble_eq_true rfl)) (la_1 (cat_aV _ _) (la_n la_z)) ?_
  refine ev_aload_n (pc := 0) (i := 0) dX9_tonight_0 rfl rfl ?_
  obtain ⟨hs1, hL⟩ := cC_un hL
  obtain ⟨r2, h3, hc4, hL⟩ := cl_un hL
  refine evB_callV_I (pc := 1) (M_Cc_isTold hc4) dX9_tonight_1 mt_Cc_isTold st_Cc_isTold ml_Cc_223 hs1 (by decide) ⟨_, rfl, rfl⟩ (Nat.le_of_ble_eq_true rfl) rfl rfl (Nat.le_trans sm_z (by decide)) ?_
  refine ev_if_ne (pc := 4) (tgt := 9) dX9_tonight_4 rfl hL rfl (fun hL => ?_) (fun hL => ?_)
  · refine ev_iconst (pc := 7) dX9_tonight_7 ?_
    exact evB_iret (pc := 8) dX9_tonight_8 rfl hL
  · refine ev_aload_n (pc := 9) (i := 0) dX9_tonight_9 rfl rfl ?_
    obtain ⟨r5, h6, hc7, hL⟩ := cl_un hL
    refine evB_callV_A (pc := 10) (M_Cc_copyApart hc7) dX9_tonight_10 mt_Cc_copyApart st_Cc_copyApart ml_Cc_272 hs1 (by decide) ⟨_, rfl, rfl⟩ (Nat.le_of_ble_eq_true rfl) rfl rfl (Nat.le_trans sm_z (by decide)) ?_
    refine ev_astore_n (pc := 13) (i := 1) (isA_aV _ _) dX9_tonight_13 rfl (lnl_v (cat_aV _ _) rfl) (Nat.le_of_ble_eq_true rfl) ?_
    refine ev_aload_n (pc := 14) (i := 1) dX9_tonight_14 rfl rfl ?_
    refine ev_iconst (pc := 15) dX9_tonight_15 ?_
    obtain ⟨hs8, hL⟩ := cC_un hL
    obtain ⟨r9, h10, hc11, hL⟩ := cl_un hL
    refine evB_callV_V (pc := 16) (M_St_book hc11) dX9_tonight_16 mt_St_book st_St_book ml_Cc_276 hs8 (by decide) ⟨_, rfl, rfl⟩ (Nat.le_of_ble_eq_true rfl) rfl rfl (Nat.le_trans sm_z (by decide)) ?_
    refine ev_aload_n (pc := 19) (i := 1) dX9_tonight_19 rfl rfl ?_
    refine ev_get (pc := 20) (c9 := 7) (k9 := 3) dX9_tonight_20 fl_Cc_279 (by decide) hs8 (gv7_3 hs8) ?_
    refine ev_aload_n (pc := 23) (i := 1) dX9_tonight_23 rfl rfl ?_
    refine ev_get (pc := 24) (c9 := 7) (k9 := 4) dX9_tonight_24 fl_Cc_282 (by decide) hs8 gv7_4 ?_
    obtain ⟨r12, h13, hc14, hL⟩ := cl_un hL
    refine evB_callS_I (pc := 27) (M_Cc_rowOf hc14) dX9_tonight_27 mt_Cc_rowOf st_Cc_rowOf ml_Cc_285 (Nat.le_of_ble_eq_true rfl) rfl rfl (Nat.le_trans sm_z (by decide)) ?_
    exact evB_iret (pc := 30) dX9_tonight_30 rfl hL
set_option maxHeartbeats 1000000 in
set_option maxRecDepth 100000 in
theorem M_Ps_takeBack {ω : Wd} {z : Nat → Prop} {h h' : Hp} {a0 a1 r : Int}  (hL : Ps_takeBack h a0 a1 = some (r, h')) : CtB ω N_Ps_takeBack 3 [aV ω a0, aV ω a1] z h (some (iV r)) h' := by
  unfold Ps_takeBack at hL
  refine Ct_of (lv := [some (aV ω a0), some (aV ω a1)]) (by decide) (Nat.le_trans (sl_1 (cat_aV _ _) (sl_1 (cat_aV _ _) sl_z)) (Nat.le_of_ble_eq_true rfl)) (la_1 (cat_aV _ _) (la_1 (cat_aV _ _) la_z)) ?_
  refine ev_aload_n (pc := 0) (i := 0) dX4_takeBack_0 rfl rfl ?_
  obtain ⟨hs1, hL⟩ := cC_un hL
  refine ev_get (pc := 1) (c9 := 4) (k9 := 2) dX4_takeBack_1 fl_Ps_21 (by decide) hs1 gv4_2 ?_
  refine ev_if_ne (pc := 4) (tgt := 9) dX4_takeBack_4 rfl hL rfl (fun hL => ?_) (fun hL => ?_)
  · refine ev_iconst (pc := 7) dX4_takeBack_7 ?_
    exact evB_iret (pc := 8) dX4_takeBack_8 rfl hL
  · refine ev_aload_n (pc := 9) (i := 0) dX4_takeBack_9 rfl rfl ?_
    refine ev_dup (pc := 10) dX4_takeBack_10 (cat_aV _ _) ?_
    refine ev_get (pc := 11) (c9 := 4) (k9 := 2) dX4_takeBack_11 fl_Ps_21 (by decide) hs1 gv4_2 ?_
    refine ev_iconst (pc := 14) dX4_takeBack_14 ?_
    refine ev_isub (pc := 15) dX4_takeBack_15 ?_
    refine evB_putI (pc := 16) (c9 := 4) (k9 := 2) (kI := 2) dX4_takeBack_16 fl_Ps_21 hs1 (by decide) (fun q hq => by cases hq; rfl) rfl rfl rfl ?_
    refine ev_puG hL (fun h2 hL => ?_)
    refine ev_aload_n (pc := 19) (i := 1) dX4_takeBack_19 rfl rfl ?_
    refine ev_aload_n (pc := 20) (i := 0) dX4_takeBack_20 rfl rfl ?_
    obtain ⟨r3, h4, hc5, hL⟩ := cl_un hL
    refine evB_callV_A (pc := 21) (M_Ps_last hc5) dX4_takeBack_21 mt_Ps_last st_Ps_last ml_Ps_25 hs1 (by decide) ⟨_, rfl, rfl⟩ (Nat.le_of_ble_eq_true rfl) rfl rfl (Nat.le_trans (sm_1 (cat_aV _ _) sm_z) (by decide)) ?_
    obtain ⟨hs6, hL⟩ := cC_un hL
    obtain ⟨r7, h8, hc9, hL⟩ := cl_un hL
    refine evB_callV_V (pc := 24) (M_St_copy hc9) dX4_takeBack_24 mt_St_copy st_St_copy ml_Ps_29 hs6 (by decide) ⟨_, rfl, rfl⟩ (Nat.le_of_ble_eq_true rfl) rfl rfl (Nat.le_trans sm_z (by decide)) ?_
    refine ev_aload_n (pc := 27) (i := 0) dX4_takeBack_27 rfl rfl ?_
    refine ev_get (pc := 28) (c9 := 4) (k9 := 2) dX4_takeBack_28 fl_Ps_21 (by decide) hs1 gv4_2 ?_
    exact evB_iret (pc := 31) dX4_takeBack_31 rfl hL
set_option maxHeartbeats 1000000 in
set_option maxRecDepth 100000 in
theorem M_Cc_undo {ω : Wd} {z : Nat → Prop} {h h' : Hp} {a0 r : Int}  (hL : Cc_undo h a0 = some (r, h')) : CtB ω N_Cc_undo 4 [aV ω a0] z h (some (iV r)) h' := by
  unfold Cc_undo at hL
  refine Ct_of (lv := [some (aV ω a0)]) (by decide) (Nat.le_trans (sl_1 (cat_aV _ _) sl_z) (Nat.le_of_ble_eq_true rfl)) (la_1 (cat_aV _ _) la_z) ?_
  refine ev_aload_n (pc := 0) (i := 0) dX9_undo_0 rfl rfl ?_
  obtain ⟨hs1, hL⟩ := cC_un hL
  refine ev_get (pc := 1) (c9 := 9) (k9 := 14) dX9_undo_1 fl_Cc_75 (by decide) hs1 (gv9_14 hs1) ?_
  refine ev_aload_n (pc := 4) (i := 0) dX9_undo_4 rfl rfl ?_
  refine ev_get (pc := 5) (c9 := 9) (k9 := 10) dX9_undo_5 fl_Cc_58 (by decide) hs1 (gv9_10 hs1) ?_
  obtain ⟨hs2, hL⟩ := cC_un hL
  obtain ⟨r3, h4, hc5, hL⟩ := cl_un hL
  refine evB_callV_I (pc := 8) (M_Ps_takeBack hc5) dX9_undo_8 mt_Ps_takeBack st_Ps_takeBack ml_Cc_236 hs2 (by decide) ⟨_, rfl, rfl⟩ (Nat.le_of_ble_eq_true rfl) rfl rfl (Nat.le_trans sm_z (by decide)) ?_
  exact evB_iret (pc := 11) dX9_undo_11 rfl hL
set_option maxHeartbeats 1000000 in
set_option maxRecDepth 100000 in
theorem M_Cc_wrong {ω : Wd} {z : Nat → Prop} {h h' : Hp} {a0 a1 a2 r : Int}  (hL : Cc_wrong h a0 a1 a2 = some (r, h')) : CtB ω N_Cc_wrong 5 [aV ω a0, iV a1, iV a2] z h (some (iV r)) h' := by
  unfold Cc_wrong at hL
  refine Ct_of (lv := [some (aV ω a0), some (iV a1), some (iV a2)]) (by decide) (Nat.le_trans (sl_1 (cat_aV _ _) (sl_1 (cat_iV _) (sl_1 (cat_iV _) sl_z))) (Nat.le_of_ble_eq_true rfl)) (la_1 (cat_aV _ _) (la_1 (cat_iV _) (la_1 (cat_iV _) la_z))) ?_
  refine ev_aload_n (pc := 0) (i := 0) dX9_wrong_0 rfl rfl ?_
  refine ev_iload_n (pc := 1) (i := 1) dX9_wrong_1 rfl rfl ?_
  obtain ⟨hs1, hL⟩ := cC_un hL
  obtain ⟨r2, h3, hc4, hL⟩ := cl_un hL
  refine evB_callV_I (pc := 2) (M_Cc_isWrong hc4) dX9_wrong_2 mt_Cc_isWrong st_Cc_isWrong ml_Cc_154 hs1 (by decide) ⟨_, rfl, rfl⟩ (Nat.le_of_ble_eq_true rfl) rfl rfl (Nat.le_trans sm_z (by decide)) ?_
  refine ev_if_ne (pc := 5) (tgt := 10) dX9_wrong_5 rfl hL rfl (fun hL => ?_) (fun hL => ?_)
  · refine ev_iconst (pc := 8) dX9_wrong_8 ?_
    exact evB_iret (pc := 9) dX9_wrong_9 rfl hL
  · refine ev_iload_n (pc := 10) (i := 2) dX9_wrong_10 rfl rfl ?_
    rcases ite_un hL with ⟨hx, hL⟩ | ⟨hx9, hL⟩
    · refine evB_tswIn (pc := 11) (tgt := 44) dX9_wrong_11 hx (by decide) (by decide) rfl rfl ?_
      refine ev_aload_n (pc := 44) (i := 0) dX9_wrong_44 rfl rfl ?_
      refine ev_get (pc := 45) (c9 := 9) (k9 := 1) dX9_wrong_45 fl_Cc_19 (by decide) hs1 gv9_1 ?_
      refine ev_iload_n (pc := 48) (i := 1) dX9_wrong_48 rfl rfl ?_
      obtain ⟨hs5, hL⟩ := cC_un hL
      obtain ⟨r6, h7, hc8, hL⟩ := cl_un hL
      refine evB_callV_I (pc := 49) (M_Cy_whoOf hc8) dX9_wrong_49 mt_Cy_whoOf st_Cy_whoOf ml_Cc_157 hs5 (by decide) ⟨_, rfl, rfl⟩ (Nat.le_of_ble_eq_true rfl) rfl rfl (Nat.le_trans sm_z (by decide)) ?_
      exact evB_iret (pc := 52) dX9_wrong_52 rfl hL
    · rcases ite_un hL with ⟨hx, hL⟩ | ⟨hx14, hL⟩
      · refine evB_tswIn (pc := 11) (tgt := 53) dX9_wrong_11 hx (by decide) (by decide) rfl rfl ?_
        refine ev_aload_n (pc := 53) (i := 0) dX9_wrong_53 rfl rfl ?_
        refine ev_get (pc := 54) (c9 := 9) (k9 := 1) dX9_wrong_54 fl_Cc_19 (by decide) hs1 gv9_1 ?_
        refine ev_iload_n (pc := 57) (i := 1) dX9_wrong_57 rfl rfl ?_
        obtain ⟨hs10, hL⟩ := cC_un hL
        obtain ⟨r11, h12, hc13, hL⟩ := cl_un hL
        refine evB_callV_I (pc := 58) (M_Cy_whomOf hc13) dX9_wrong_58 mt_Cy_whomOf st_Cy_whomOf ml_Cc_160 hs10 (by decide) ⟨_, rfl, rfl⟩ (Nat.le_of_ble_eq_true rfl) rfl rfl (Nat.le_trans sm_z (by decide)) ?_
        exact evB_iret (pc := 61) dX9_wrong_61 rfl hL
      · rcases ite_un hL with ⟨hx, hL⟩ | ⟨hx19, hL⟩
        · refine evB_tswIn (pc := 11) (tgt := 62) dX9_wrong_11 hx (by decide) (by decide) rfl rfl ?_
          refine ev_aload_n (pc := 62) (i := 0) dX9_wrong_62 rfl rfl ?_
          refine ev_get (pc := 63) (c9 := 9) (k9 := 1) dX9_wrong_63 fl_Cc_19 (by decide) hs1 gv9_1 ?_
          refine ev_iload_n (pc := 66) (i := 1) dX9_wrong_66 rfl rfl ?_
          obtain ⟨hs15, hL⟩ := cC_un hL
          obtain ⟨r16, h17, hc18, hL⟩ := cl_un hL
          refine evB_callV_I (pc := 67) (M_Cy_graveOf hc18) dX9_wrong_67 mt_Cy_graveOf st_Cy_graveOf ml_Cc_163 hs15 (by decide) ⟨_, rfl, rfl⟩ (Nat.le_of_ble_eq_true rfl) rfl rfl (Nat.le_trans sm_z (by decide)) ?_
          exact evB_iret (pc := 70) dX9_wrong_70 rfl hL
        · rcases ite_un hL with ⟨hx, hL⟩ | ⟨hx24, hL⟩
          · refine evB_tswIn (pc := 11) (tgt := 71) dX9_wrong_11 hx (by decide) (by decide) rfl rfl ?_
            refine ev_aload_n (pc := 71) (i := 0) dX9_wrong_71 rfl rfl ?_
            refine ev_get (pc := 72) (c9 := 9) (k9 := 10) dX9_wrong_72 fl_Cc_58 (by decide) hs1 (gv9_10 hs1) ?_
            refine ev_iload_n (pc := 75) (i := 1) dX9_wrong_75 rfl rfl ?_
            obtain ⟨hs20, hL⟩ := cC_un hL
            obtain ⟨r21, h22, hc23, hL⟩ := cl_un hL
            refine evB_callV_I (pc := 76) (M_St_isSentenced hc23) dX9_wrong_76 mt_St_isSentenced st_St_isSentenced ml_Cc_166 hs20 (by decide) ⟨_, rfl, rfl⟩ (Nat.le_of_ble_eq_true rfl) rfl rfl (Nat.le_trans sm_z (by decide)) ?_
            refine ev_if_eq (pc := 79) (tgt := 86) dX9_wrong_79 rfl hL rfl (fun hL => ?_) (fun hL => ?_)
            · refine ev_iconst (pc := 86) dX9_wrong_86 ?_
              exact evB_iret (pc := 87) dX9_wrong_87 rfl hL
            · refine ev_iconst (pc := 82) dX9_wrong_82 ?_
              refine ev_goto (pc := 83) (tgt := 87) dX9_wrong_83 rfl ?_
              exact evB_iret (pc := 87) dX9_wrong_87 rfl hL
          · rcases ite_un hL with ⟨hx, hL⟩ | ⟨hx40, hL⟩
            · refine evB_tswIn (pc := 11) (tgt := 88) dX9_wrong_11 hx (by decide) (by decide) rfl rfl ?_
              refine ev_aload_n (pc := 88) (i := 0) dX9_wrong_88 rfl rfl ?_
              refine ev_aload_n (pc := 89) (i := 0) dX9_wrong_89 rfl rfl ?_
              refine ev_get (pc := 90) (c9 := 9) (k9 := 10) dX9_wrong_90 fl_Cc_58 (by decide) hs1 (gv9_10 hs1) ?_
              refine ev_aload_n (pc := 93) (i := 0) dX9_wrong_93 rfl rfl ?_
              refine ev_get (pc := 94) (c9 := 9) (k9 := 1) dX9_wrong_94 fl_Cc_19 (by decide) hs1 gv9_1 ?_
              refine ev_iload_n (pc := 97) (i := 1) dX9_wrong_97 rfl rfl ?_
              obtain ⟨hs25, hL⟩ := cC_un hL
              obtain ⟨r26, h27, hc28, hL⟩ := cl_un hL
              refine evB_callV_I (pc := 98) (M_Cy_whoOf hc28) dX9_wrong_98 mt_Cy_whoOf st_Cy_whoOf ml_Cc_157 hs25 (by decide) ⟨_, rfl, rfl⟩ (Nat.le_of_ble_eq_true rfl) rfl rfl (Nat.le_trans (sm_1 (cat_aV _ _) (sm_1 (cat_aV _ _) sm_z)) (by decide)) ?_
              refine ev_aload_n (pc := 101) (i := 0) dX9_wrong_101 rfl rfl ?_
              refine ev_get (pc := 102) (c9 := 9) (k9 := 1) dX9_wrong_102 fl_Cc_19 (by decide) hs1 gv9_1 ?_
              refine ev_iload_n (pc := 105) (i := 1) dX9_wrong_105 rfl rfl ?_
              obtain ⟨hs29, hL⟩ := cC_un hL
              obtain ⟨r30, h31, hc32, hL⟩ := cl_un hL
              refine evB_callV_I (pc := 106) (M_Cy_whomOf hc32) dX9_wrong_106 mt_Cy_whomOf st_Cy_whomOf ml_Cc_160 hs29 (by decide) ⟨_, rfl, rfl⟩ (Nat.le_of_ble_eq_true rfl) rfl rfl (Nat.le_trans (sm_1 (cat_iV _) (sm_1 (cat_aV _ _) (sm_1 (cat_aV _ _) sm_z))) (by decide)) ?_
              refine ev_aload_n (pc := 109) (i := 0) dX9_wrong_109 rfl rfl ?_
              refine ev_get (pc := 110) (c9 := 9) (k9 := 1) dX9_wrong_110 fl_Cc_19 (by decide) hs1 gv9_1 ?_
              refine ev_iload_n (pc := 113) (i := 1) dX9_wrong_113 rfl rfl ?_
              obtain ⟨hs33, hL⟩ := cC_un hL
              obtain ⟨r34, h35, hc36, hL⟩ := cl_un hL
              refine evB_callV_I (pc := 114) (M_Cy_graveOf hc36) dX9_wrong_114 mt_Cy_graveOf st_Cy_graveOf ml_Cc_163 hs33 (by decide) ⟨_, rfl, rfl⟩ (Nat.le_of_ble_eq_true rfl) rfl rfl (Nat.le_trans (sm_1 (cat_iV _) (sm_1 (cat_iV _) (sm_1 (cat_aV _ _) (sm_1 (cat_aV _ _) sm_z)))) (by decide)) ?_
              obtain ⟨r37, h38, hc39, hL⟩ := cl_un hL
              refine evB_callV_I (pc := 117) (M_Cc_worthBy hc39) dX9_wrong_117 mt_Cc_worthBy st_Cc_worthBy ml_Cc_169 hs1 (by decide) ⟨_, rfl, rfl⟩ (Nat.le_of_ble_eq_true rfl) rfl rfl (Nat.le_trans sm_z (by decide)) ?_
              exact evB_iret (pc := 120) dX9_wrong_120 rfl hL
            · refine evB_tswOut (pc := 11) (tgt := 121) dX9_wrong_11 (by omega) rfl ?_
              refine ev_iconst (pc := 121) dX9_wrong_121 ?_
              exact evB_iret (pc := 122) dX9_wrong_122 rfl hL
set_option maxHeartbeats 1000000 in
set_option maxRecDepth 100000 in
theorem KCc_years_b43_body {ω : Wd} {z : Nat → Prop}  {k43 : Hp × Int × Int × Int → Option (Int × Hp)} {h h' : Hp} {x0 x1 x4 r : Int}  (hk43 : ∀ s o, k43 s = some o → EvB ω N_Cc_years 6 (QB (some (iV o.1)) z o.2) z s.1 43 [some (aV ω s.2.1), some (iV s.2.2.1), none, none, some (iV s.2.2.2)] []) (hL : Cc_years_b43_body  k43 h x0 x1 x4 = some (r, h')) : EvB ω N_Cc_years 6 (QB (some (iV r)) z h') z h 43 [some (aV ω x0), some (iV x1), none, none, some (iV x4)] [] := by
  unfold Cc_years_b43_body at hL
  refine ev_iload (pc := 43) dX9_years_43 rfl ?_
  refine ev_iload_n (pc := 45) (i := 1) dX9_years_45 rfl rfl ?_
  refine ev_icmp_ge (pc := 46) (tgt := 96) dX9_years_46 rfl hL rfl (fun hL => ?_) (fun hL => ?_)
  · refine ev_aload_n (pc := 49) (i := 0) dX9_years_49 rfl rfl ?_
    obtain ⟨hs7, hL⟩ := cC_un hL
    refine ev_get (pc := 50) (c9 := 9) (k9 := 14) dX9_years_50 fl_Cc_75 (by decide) hs7 (gv9_14 hs7) ?_
    refine ev_aload_n (pc := 53) (i := 0) dX9_years_53 rfl rfl ?_
    refine ev_get (pc := 54) (c9 := 9) (k9 := 10) dX9_years_54 fl_Cc_58 (by decide) hs7 (gv9_10 hs7) ?_
    obtain ⟨hs8, hL⟩ := cC_un hL
    obtain ⟨r9, h10, hc11, hL⟩ := cl_un hL
    refine evB_callV_V (pc := 57) (M_Ps_offer hc11) dX9_years_57 mt_Ps_offer st_Ps_offer ml_Cc_173 hs8 (by decide) ⟨_, rfl, rfl⟩ (Nat.le_of_ble_eq_true rfl) rfl rfl (Nat.le_trans sm_z (by decide)) ?_
    refine ev_aload_n (pc := 60) (i := 0) dX9_years_60 rfl rfl ?_
    refine ev_get (pc := 61) (c9 := 9) (k9 := 14) dX9_years_61 fl_Cc_75 (by decide) hs7 (gv9_14 hs7) ?_
    obtain ⟨r12, h13, hc14, hL⟩ := cl_un hL
    refine evB_callV_V (pc := 64) (M_Ps_keep hc14) dX9_years_64 mt_Ps_keep st_Ps_keep ml_Cc_181 hs8 (by decide) ⟨_, rfl, rfl⟩ (Nat.le_of_ble_eq_true rfl) rfl rfl (Nat.le_trans sm_z (by decide)) ?_
    refine ev_aload_n (pc := 67) (i := 0) dX9_years_67 rfl rfl ?_
    obtain ⟨r15, h16, hc17, hL⟩ := cl_un hL
    refine evB_callV_V (pc := 68) (M_Cc_sinAhead hc17) dX9_years_68 mt_Cc_sinAhead st_Cc_sinAhead ml_Cc_230 hs7 (by decide) ⟨_, rfl, rfl⟩ (Nat.le_of_ble_eq_true rfl) rfl rfl (Nat.le_trans sm_z (by decide)) ?_
    refine ev_aload_n (pc := 71) (i := 0) dX9_years_71 rfl rfl ?_
    refine ev_get (pc := 72) (c9 := 9) (k9 := 10) dX9_years_72 fl_Cc_58 (by decide) hs7 (gv9_10 hs7) ?_
    refine ev_iconst (pc := 75) dX9_years_75 ?_
    obtain ⟨hs18, hL⟩ := cC_un hL
    obtain ⟨r19, h20, hc21, hL⟩ := cl_un hL
    refine evB_callV_V (pc := 76) (M_St_pass hc21) dX9_years_76 mt_St_pass st_St_pass ml_Cc_233 hs18 (by decide) ⟨_, rfl, rfl⟩ (Nat.le_of_ble_eq_true rfl) rfl rfl (Nat.le_trans sm_z (by decide)) ?_
    refine ev_aload_n (pc := 79) (i := 0) dX9_years_79 rfl rfl ?_
    refine ev_get (pc := 80) (c9 := 9) (k9 := 15) dX9_years_80 fl_Cc_82 (by decide) hs7 (gv9_15 hs7) ?_
    refine ev_aload_n (pc := 83) (i := 0) dX9_years_83 rfl rfl ?_
    refine ev_get (pc := 84) (c9 := 9) (k9 := 10) dX9_years_84 fl_Cc_58 (by decide) hs7 (gv9_10 hs7) ?_
    obtain ⟨hs22, hL⟩ := cC_un hL
    obtain ⟨r23, h24, hc25, hL⟩ := cl_un hL
    refine evB_callV_V (pc := 87) (M_Lg_write hc25) dX9_years_87 mt_Lg_write st_Lg_write ml_Cc_192 hs22 (by decide) ⟨_, rfl, rfl⟩ (Nat.le_of_ble_eq_true rfl) rfl rfl (Nat.le_trans sm_z (by decide)) ?_
    refine ev_iinc (pc := 90) dX9_years_90 rfl (lnl_n rfl) (Nat.le_of_ble_eq_true rfl) ?_
    refine ev_goto (pc := 93) (tgt := 43) dX9_years_93 rfl ?_
    exact ev_le (lvle_s (lvle_s (lvle_n (lvle_n (lvle_s lvle_z))))) (hk43 _ _ hL)
  · refine ev_aload_n (pc := 96) (i := 0) dX9_years_96 rfl rfl ?_
    obtain ⟨hs26, hL⟩ := cC_un hL
    refine ev_get (pc := 97) (c9 := 9) (k9 := 10) dX9_years_97 fl_Cc_58 (by decide) hs26 (gv9_10 hs26) ?_
    obtain ⟨hs27, hL⟩ := cC_un hL
    refine ev_get (pc := 100) (c9 := 7) (k9 := 8) dX9_years_100 fl_Cc_227 (by decide) hs27 gv7_8 ?_
    exact evB_iret (pc := 103) dX9_years_103 rfl hL
set_option maxHeartbeats 1000000 in
set_option maxRecDepth 100000 in
theorem KCc_years_b43 {ω : Wd} {z : Nat → Prop}  {h h' : Hp} {x0 x1 x4 r : Int}  (hL : Cc_years_b43 h x0 x1 x4 = some (r, h')) : EvB ω N_Cc_years 6 (QB (some (iV r)) z h') z h 43 [some (aV ω x0), some (iV x1), none, none, some (iV x4)] [] := by
  unfold Cc_years_b43 at hL
  refine itr_link (P := fun (s : Hp × Int × Int × Int) (o : Int × Hp) => EvB ω N_Cc_years 6 (QB (some (iV o.1)) z o.2) z s.1 43 [some (aV ω s.2.1), some (iV s.2.2.1), none, none, some (iV s.2.2.2)] []) ?_ _ _ _ hL
  intro k hk s o h9
  have h10 := KCc_years_b43_body (ω := ω) (z := z) (k43 := k) (h := s.1) (x0 := s.2.1) (x1 := s.2.2.1) (x4 := s.2.2.2) (r := o.1) (h' := o.2) 
  exact h10 hk h9
set_option maxHeartbeats 1000000 in
set_option maxRecDepth 100000 in
theorem M_Cc_years {ω : Wd} {z : Nat → Prop} {h h' : Hp} {a0 a1 a2 r : Int}  (hL : Cc_years h a0 a1 a2 = some (r, h')) : CtB ω N_Cc_years 6 [aV ω a0, iV a1, lV a2] z h (some (iV r)) h' := by
  unfold Cc_years at hL
  refine Ct_of (lv := [some (aV ω a0), some (iV a1), some (lV a2), none, none]) (by decide) (Nat.le_trans (sl_1 (cat_aV _ _) (sl_1 (cat_iV _) (sl_2 (cat_lV _) sl_z))) (Nat.le_of_ble_eq_true rfl)) (la_1 (cat_aV _ _) (la_1 (cat_iV _) (la_2 (cat_lV _) (la_n la_z)))) ?_
  refine ev_aload_n (pc := 0) (i := 0) dX9_years_0 rfl rfl ?_
  obtain ⟨hs1, hL⟩ := cC_un hL
  obtain ⟨r2, h3, hc4, hL⟩ := cl_un hL
  refine evB_callV_I (pc := 1) (M_Cc_isTold hc4) dX9_years_1 mt_Cc_isTold st_Cc_isTold ml_Cc_223 hs1 (by decide) ⟨_, rfl, rfl⟩ (Nat.le_of_ble_eq_true rfl) rfl rfl (Nat.le_trans sm_z (by decide)) ?_
  refine ev_if_eq (pc := 4) (tgt := 33) dX9_years_4 rfl hL rfl (fun hL => ?_) (fun hL => ?_)
  · refine ev_iconst (pc := 33) dX9_years_33 ?_
    exact evB_iret (pc := 34) dX9_years_34 rfl hL
  · refine ev_iload_n (pc := 7) (i := 1) dX9_years_7 rfl rfl ?_
    refine ev_iconst (pc := 8) dX9_years_8 ?_
    refine ev_icmp_lt (pc := 9) (tgt := 33) dX9_years_9 rfl hL rfl (fun hL => ?_) (fun hL => ?_)
    · refine ev_iconst (pc := 33) dX9_years_33 ?_
      exact evB_iret (pc := 34) dX9_years_34 rfl hL
    · refine ev_iload_n (pc := 12) (i := 1) dX9_years_12 rfl rfl ?_
      refine ev_bipush (pc := 13) dX9_years_13 (by decide) ?_
      refine ev_icmp_gt (pc := 15) (tgt := 33) dX9_years_15 rfl hL rfl (fun hL => ?_) (fun hL => ?_)
      · refine ev_iconst (pc := 33) dX9_years_33 ?_
        exact evB_iret (pc := 34) dX9_years_34 rfl hL
      · refine ev_aload_n (pc := 18) (i := 0) dX9_years_18 rfl rfl ?_
        refine ev_get (pc := 19) (c9 := 9) (k9 := 10) dX9_years_19 fl_Cc_58 (by decide) hs1 (gv9_10 hs1) ?_
        obtain ⟨hs5, hL⟩ := cC_un hL
        refine ev_get (pc := 22) (c9 := 7) (k9 := 8) dX9_years_22 fl_Cc_227 (by decide) hs5 gv7_8 ?_
        refine ev_iload_n (pc := 25) (i := 1) dX9_years_25 rfl rfl ?_
        refine ev_iadd (pc := 26) dX9_years_26 ?_
        refine ev_sipush (pc := 27) dX9_years_27 (by decide) ?_
        refine ev_icmp_le (pc := 30) (tgt := 35) dX9_years_30 rfl hL rfl (fun hL => ?_) (fun hL => ?_)
        · refine ev_iconst (pc := 33) dX9_years_33 ?_
          exact evB_iret (pc := 34) dX9_years_34 rfl hL
        · refine ev_aload_n (pc := 35) (i := 0) dX9_years_35 rfl rfl ?_
          refine ev_lload_n (pc := 36) (i := 2) dX9_years_36 rfl rfl ?_
          refine evB_putL (pc := 37) (c9 := 9) (k9 := 19) (kI := 19) dX9_years_37 fl_Cc_104 hs1 (by decide) (fun q hq => by cases hq; rfl) rfl rfl rfl ?_
          refine ev_puG hL (fun h6 hL => ?_)
          refine ev_iconst (pc := 40) dX9_years_40 ?_
          refine ev_istore (pc := 41) dX9_years_41 (lnl_n rfl) (Nat.le_of_ble_eq_true rfl) ?_
          exact ev_le (lvle_s (lvle_s (lvle_n (lvle_n (lvle_s lvle_z))))) (KCc_years_b43  hL)
set_option maxHeartbeats 1000000 in
set_option maxRecDepth 100000 in
theorem M_Md_lays {ω : Wd} {z : Nat → Prop} {h h' : Hp} {a0 a1 a2 a3 r : Int}  (hL : Md_lays h a0 a1 a2 a3 = some (r, h')) : CtB ω N_Md_lays 1 [aV ω a0, iV a1, iV a2, iV a3] z h none h' := by
  unfold Md_lays at hL
  refine Ct_of (lv := [some (aV ω a0), some (iV a1), some (iV a2), some (iV a3)]) (by decide) (Nat.le_trans (sl_1 (cat_aV _ _) (sl_1 (cat_iV _) (sl_1 (cat_iV _) (sl_1 (cat_iV _) sl_z)))) (Nat.le_of_ble_eq_true rfl)) (la_1 (cat_aV _ _) (la_1 (cat_iV _) (la_1 (cat_iV _) (la_1 (cat_iV _) la_z)))) ?_
  refine ev_aload_n (pc := 0) (i := 0) dX10_lays_0 rfl rfl ?_
  refine ev_bipush (pc := 1) dX10_lays_1 (by decide) ?_
  refine ev_iload_n (pc := 3) (i := 1) dX10_lays_3 rfl rfl ?_
  refine ev_imul (pc := 4) dX10_lays_4 ?_
  refine ev_iload_n (pc := 5) (i := 2) dX10_lays_5 rfl rfl ?_
  refine ev_iadd (pc := 6) dX10_lays_6 ?_
  refine ev_iload_n (pc := 7) (i := 3) dX10_lays_7 rfl rfl ?_
  obtain ⟨q1a, q1d, q1b, q1c, hL⟩ := cY_un hL
  refine ev_iast (pc := 8) dX10_lays_8 q1a q1d q1b q1c ?_
  refine ev_puG hL (fun h2 hL => ?_)
  refine ev_aload_n (pc := 9) (i := 0) dX10_lays_9 rfl rfl ?_
  refine ev_bipush (pc := 10) dX10_lays_10 (by decide) ?_
  refine ev_iload_n (pc := 12) (i := 2) dX10_lays_12 rfl rfl ?_
  refine ev_imul (pc := 13) dX10_lays_13 ?_
  refine ev_iload_n (pc := 14) (i := 1) dX10_lays_14 rfl rfl ?_
  refine ev_iadd (pc := 15) dX10_lays_15 ?_
  refine ev_iload_n (pc := 16) (i := 3) dX10_lays_16 rfl rfl ?_
  obtain ⟨q3a, q3d, q3b, q3c, hL⟩ := cY_un hL
  refine ev_iast (pc := 17) dX10_lays_17 q3a q3d q3b q3c ?_
  refine ev_puG hL (fun h4 hL => ?_)
  exact evB_vret (pc := 18) dX10_lays_18 rfl hL
set_option maxHeartbeats 1000000 in
set_option maxRecDepth 100000 in
theorem M_Md_owes {ω : Wd} {z : Nat → Prop} {h h' : Hp} {a0 a1 a2 r : Int}  (hL : Md_owes h a0 a1 a2 = some (r, h')) : CtB ω N_Md_owes 1 [aV ω a0, iV a1, iV a2] z h (some (iV r)) h' := by
  unfold Md_owes at hL
  refine Ct_of (lv := [some (aV ω a0), some (iV a1), some (iV a2)]) (by decide) (Nat.le_trans (sl_1 (cat_aV _ _) (sl_1 (cat_iV _) (sl_1 (cat_iV _) sl_z))) (Nat.le_of_ble_eq_true rfl)) (la_1 (cat_aV _ _) (la_1 (cat_iV _) (la_1 (cat_iV _) la_z))) ?_
  refine ev_aload_n (pc := 0) (i := 0) dX10_owes_0 rfl rfl ?_
  refine ev_bipush (pc := 1) dX10_owes_1 (by decide) ?_
  refine ev_iload_n (pc := 3) (i := 1) dX10_owes_3 rfl rfl ?_
  refine ev_imul (pc := 4) dX10_owes_4 ?_
  refine ev_iload_n (pc := 5) (i := 2) dX10_owes_5 rfl rfl ?_
  refine ev_iadd (pc := 6) dX10_owes_6 ?_
  obtain ⟨q1a, q1b, q1c, hL⟩ := cX_un hL
  refine ev_iald (pc := 7) dX10_owes_7 q1a q1b q1c ?_
  exact evB_iret (pc := 8) dX10_owes_8 rfl hL
set_option maxHeartbeats 1000000 in
set_option maxRecDepth 100000 in
theorem M_Md_adds {ω : Wd} {z : Nat → Prop} {h h' : Hp} {a0 a1 a2 a3 r : Int}  (hL : Md_adds h a0 a1 a2 a3 = some (r, h')) : CtB ω N_Md_adds 2 [aV ω a0, iV a1, iV a2, iV a3] z h none h' := by
  unfold Md_adds at hL
  refine Ct_of (lv := [some (aV ω a0), some (iV a1), some (iV a2), some (iV a3)]) (by decide) (Nat.le_trans (sl_1 (cat_aV _ _) (sl_1 (cat_iV _) (sl_1 (cat_iV _) (sl_1 (cat_iV _) sl_z)))) (Nat.le_of_ble_eq_true rfl)) (la_1 (cat_aV _ _) (la_1 (cat_iV _) (la_1 (cat_iV _) (la_1 (cat_iV _) la_z)))) ?_
  refine ev_aload_n (pc := 0) (i := 0) dX10_adds_0 rfl rfl ?_
  refine ev_iload_n (pc := 1) (i := 1) dX10_adds_1 rfl rfl ?_
  refine ev_iload_n (pc := 2) (i := 2) dX10_adds_2 rfl rfl ?_
  refine ev_bipush (pc := 3) dX10_adds_3 (by decide) ?_
  refine ev_aload_n (pc := 5) (i := 0) dX10_adds_5 rfl rfl ?_
  refine ev_iload_n (pc := 6) (i := 1) dX10_adds_6 rfl rfl ?_
  refine ev_iload_n (pc := 7) (i := 2) dX10_adds_7 rfl rfl ?_
  obtain ⟨r1, h2, hc3, hL⟩ := cl_un hL
  refine evB_callS_I (pc := 8) (M_Md_owes hc3) dX10_adds_8 mt_Md_owes st_Md_owes ml_Md_312 (Nat.le_of_ble_eq_true rfl) rfl rfl (Nat.le_trans (sm_1 (cat_iV _) (sm_1 (cat_iV _) (sm_1 (cat_iV _) (sm_1 (cat_aV _ _) sm_z)))) (by decide)) ?_
  refine ev_iload_n (pc := 11) (i := 3) dX10_adds_11 rfl rfl ?_
  refine ev_iadd (pc := 12) dX10_adds_12 ?_
  refine ev_min (pc := 13) dX10_adds_13 wm_Md_316 w_s_min w_i_Math w_k_min (Nat.le_trans (sm_1 (cat_iV _) (sm_1 (cat_iV _) (sm_1 (cat_aV _ _) sm_z))) (by decide)) (Nat.le_of_ble_eq_true rfl) (Nat.le_refl _) (Nat.le_refl _) ?_
  obtain ⟨r4, h5, hc6, hL⟩ := cl_un hL
  refine evB_callS_V (pc := 16) (M_Md_lays hc6) dX10_adds_16 mt_Md_lays st_Md_lays ml_Md_318 (Nat.le_of_ble_eq_true rfl) rfl rfl (Nat.le_trans sm_z (by decide)) ?_
  exact evB_vret (pc := 19) dX10_adds_19 rfl hL
set_option maxHeartbeats 1000000 in
set_option maxRecDepth 100000 in
theorem KMd_allOwed_b17_body {ω : Wd} {z : Nat → Prop} {k4 : Hp × Int × Int × Int × Int → Option (Int × Hp)} {k17 : Hp × Int × Int × Int × Int × Int → Option (Int × Hp)} {h h' : Hp} {x0 x1 x2 x3 x4 r : Int} (hk4 : ∀ s o, k4 s = some o → EvB ω N_Md_allOwed 2 (QB (some (iV o.1)) z o.2) z s.1 4 [some (aV ω s.2.1), some (aV ω s.2.2.1), some (iV s.2.2.2.1), some (iV s.2.2.2.2), none] []) (hk17 : ∀ s o, k17 s = some o → EvB ω N_Md_allOwed 2 (QB (some (iV o.1)) z o.2) z s.1 17 [some (aV ω s.2.1), some (aV ω s.2.2.1), some (iV s.2.2.2.1), some (iV s.2.2.2.2.1), some (iV s.2.2.2.2.2)] []) (hL : Md_allOwed_b17_body k4 k17 h x0 x1 x2 x3 x4 = some (r, h')) : EvB ω N_Md_allOwed 2 (QB (some (iV r)) z h') z h 17 [some (aV ω x0), some (aV ω x1), some (iV x2), some (iV x3), some (iV x4)] [] := by
  unfold Md_allOwed_b17_body at hL
  refine ev_iload (pc := 17) dX10_allOwed_17 rfl ?_
  refine ev_aload_n (pc := 19) (i := 0) dX10_allOwed_19 rfl rfl ?_
  obtain ⟨hs3, hL⟩ := cC_un hL
  refine ev_get (pc := 20) (c9 := 10) (k9 := 26) dX10_allOwed_20 fl_Md_294 (by decide) hs3 gv10_26 ?_
  refine ev_icmp_ge (pc := 23) (tgt := 42) dX10_allOwed_23 rfl hL rfl (fun hL => ?_) (fun hL => ?_)
  · refine ev_iload_n (pc := 26) (i := 2) dX10_allOwed_26 rfl rfl ?_
    refine ev_aload_n (pc := 27) (i := 1) dX10_allOwed_27 rfl rfl ?_
    refine ev_iload_n (pc := 28) (i := 3) dX10_allOwed_28 rfl rfl ?_
    refine ev_iload (pc := 29) dX10_allOwed_29 rfl ?_
    obtain ⟨r4, h5, hc6, hL⟩ := cl_un hL
    refine evB_callS_I (pc := 31) (M_Md_owes hc6) dX10_allOwed_31 mt_Md_owes st_Md_owes ml_Md_312 (Nat.le_of_ble_eq_true rfl) rfl rfl (Nat.le_trans (sm_1 (cat_iV _) sm_z) (by decide)) ?_
    refine ev_iadd (pc := 34) dX10_allOwed_34 ?_
    refine ev_bdI hL (fun v7 hL => ?_)
    refine ev_istore_n (pc := 35) (i := 2) dX10_allOwed_35 rfl (lnl_v (cat_aV _ _) rfl) (Nat.le_of_ble_eq_true rfl) ?_
    refine ev_iinc (pc := 36) dX10_allOwed_36 rfl (lnl_v rfl rfl) (Nat.le_of_ble_eq_true rfl) ?_
    refine ev_goto (pc := 39) (tgt := 17) dX10_allOwed_39 rfl ?_
    exact ev_le (lvle_s (lvle_s (lvle_s (lvle_s (lvle_s lvle_z))))) (hk17 _ _ hL)
  · refine ev_iinc (pc := 42) dX10_allOwed_42 rfl (lnl_v rfl rfl) (Nat.le_of_ble_eq_true rfl) ?_
    refine ev_goto (pc := 45) (tgt := 4) dX10_allOwed_45 rfl ?_
    exact ev_le (lvle_s (lvle_s (lvle_s (lvle_s (lvle_n lvle_z))))) (hk4 _ _ hL)
set_option maxHeartbeats 1000000 in
set_option maxRecDepth 100000 in
theorem KMd_allOwed_b17 {ω : Wd} {z : Nat → Prop} {k4 : Hp × Int × Int × Int × Int → Option (Int × Hp)} {h h' : Hp} {x0 x1 x2 x3 x4 r : Int} (hk4 : ∀ s o, k4 s = some o → EvB ω N_Md_allOwed 2 (QB (some (iV o.1)) z o.2) z s.1 4 [some (aV ω s.2.1), some (aV ω s.2.2.1), some (iV s.2.2.2.1), some (iV s.2.2.2.2), none] []) (hL : Md_allOwed_b17 k4 h x0 x1 x2 x3 x4 = some (r, h')) : EvB ω N_Md_allOwed 2 (QB (some (iV r)) z h') z h 17 [some (aV ω x0), some (aV ω x1), some (iV x2), some (iV x3), some (iV x4)] [] := by
  unfold Md_allOwed_b17 at hL
  refine itr_link (P := fun (s : Hp × Int × Int × Int × Int × Int) (o : Int × Hp) => EvB ω N_Md_allOwed 2 (QB (some (iV o.1)) z o.2) z s.1 17 [some (aV ω s.2.1), some (aV ω s.2.2.1), some (iV s.2.2.2.1), some (iV s.2.2.2.2.1), some (iV s.2.2.2.2.2)] []) ?_ _ _ _ hL
  intro k hk s o h9
  have h10 := KMd_allOwed_b17_body (ω := ω) (z := z) (k4 := k4) (k17 := k) (h := s.1) (x0 := s.2.1) (x1 := s.2.2.1) (x2 := s.2.2.2.1) (x3 := s.2.2.2.2.1) (x4 := s.2.2.2.2.2) (r := o.1) (h' := o.2) hk4
  exact h10 hk h9
set_option maxHeartbeats 1000000 in
set_option maxRecDepth 100000 in
theorem KMd_allOwed_b4_body {ω : Wd} {z : Nat → Prop}  {k4 : Hp × Int × Int × Int × Int → Option (Int × Hp)} {h h' : Hp} {x0 x1 x2 x3 r : Int}  (hk4 : ∀ s o, k4 s = some o → EvB ω N_Md_allOwed 2 (QB (some (iV o.1)) z o.2) z s.1 4 [some (aV ω s.2.1), some (aV ω s.2.2.1), some (iV s.2.2.2.1), some (iV s.2.2.2.2), none] []) (hL : Md_allOwed_b4_body  k4 h x0 x1 x2 x3 = some (r, h')) : EvB ω N_Md_allOwed 2 (QB (some (iV r)) z h') z h 4 [some (aV ω x0), some (aV ω x1), some (iV x2), some (iV x3), none] [] := by
  unfold Md_allOwed_b4_body at hL
  refine ev_iload_n (pc := 4) (i := 3) dX10_allOwed_4 rfl rfl ?_
  refine ev_aload_n (pc := 5) (i := 0) dX10_allOwed_5 rfl rfl ?_
  obtain ⟨hs1, hL⟩ := cC_un hL
  refine ev_get (pc := 6) (c9 := 10) (k9 := 26) dX10_allOwed_6 fl_Md_294 (by decide) hs1 gv10_26 ?_
  refine ev_icmp_ge (pc := 9) (tgt := 48) dX10_allOwed_9 rfl hL rfl (fun hL => ?_) (fun hL => ?_)
  · refine ev_iload_n (pc := 12) (i := 3) dX10_allOwed_12 rfl rfl ?_
    refine ev_iconst (pc := 13) dX10_allOwed_13 ?_
    refine ev_iadd (pc := 14) dX10_allOwed_14 ?_
    refine ev_bdI hL (fun v2 hL => ?_)
    refine ev_istore (pc := 15) dX10_allOwed_15 (lnl_v rfl rfl) (Nat.le_of_ble_eq_true rfl) ?_
    exact ev_le (lvle_s (lvle_s (lvle_s (lvle_s (lvle_s lvle_z))))) (KMd_allOwed_b17 hk4 hL)
  · refine ev_iload_n (pc := 48) (i := 2) dX10_allOwed_48 rfl rfl ?_
    exact evB_iret (pc := 49) dX10_allOwed_49 rfl hL
set_option maxHeartbeats 1000000 in
set_option maxRecDepth 100000 in
theorem KMd_allOwed_b4 {ω : Wd} {z : Nat → Prop}  {h h' : Hp} {x0 x1 x2 x3 r : Int}  (hL : Md_allOwed_b4 h x0 x1 x2 x3 = some (r, h')) : EvB ω N_Md_allOwed 2 (QB (some (iV r)) z h') z h 4 [some (aV ω x0), some (aV ω x1), some (iV x2), some (iV x3), none] [] := by
  unfold Md_allOwed_b4 at hL
  refine itr_link (P := fun (s : Hp × Int × Int × Int × Int) (o : Int × Hp) => EvB ω N_Md_allOwed 2 (QB (some (iV o.1)) z o.2) z s.1 4 [some (aV ω s.2.1), some (aV ω s.2.2.1), some (iV s.2.2.2.1), some (iV s.2.2.2.2), none] []) ?_ _ _ _ hL
  intro k hk s o h9
  have h10 := KMd_allOwed_b4_body (ω := ω) (z := z) (k4 := k) (h := s.1) (x0 := s.2.1) (x1 := s.2.2.1) (x2 := s.2.2.2.1) (x3 := s.2.2.2.2) (r := o.1) (h' := o.2) 
  exact h10 hk h9
set_option maxHeartbeats 1000000 in
set_option maxRecDepth 100000 in
theorem M_Md_allOwed {ω : Wd} {z : Nat → Prop} {h h' : Hp} {a0 a1 r : Int}  (hL : Md_allOwed h a0 a1 = some (r, h')) : CtB ω N_Md_allOwed 2 [aV ω a0, aV ω a1] z h (some (iV r)) h' := by
  unfold Md_allOwed at hL
  refine Ct_of (lv := [some (aV ω a0), some (aV ω a1), none, none, none]) (by decide) (Nat.le_trans (sl_1 (cat_aV _ _) (sl_1 (cat_aV _ _) sl_z)) (Nat.le_of_ble_eq_true rfl)) (la_1 (cat_aV _ _) (la_1 (cat_aV _ _) (la_n (la_n (la_n la_z))))) ?_
  refine ev_iconst (pc := 0) dX10_allOwed_0 ?_
  refine ev_istore_n (pc := 1) (i := 2) dX10_allOwed_1 rfl (lnl_v (cat_aV _ _) rfl) (Nat.le_of_ble_eq_true rfl) ?_
  refine ev_iconst (pc := 2) dX10_allOwed_2 ?_
  refine ev_istore_n (pc := 3) (i := 3) dX10_allOwed_3 rfl (lnl_v rfl rfl) (Nat.le_of_ble_eq_true rfl) ?_
  exact ev_le (lvle_s (lvle_s (lvle_s (lvle_s (lvle_n lvle_z))))) (KMd_allOwed_b4  hL)
set_option maxHeartbeats 1000000 in
set_option maxRecDepth 100000 in
theorem KMd_owesInAll_b4_body {ω : Wd} {z : Nat → Prop}  {k4 : Hp × Int × Int × Int × Int → Option (Int × Hp)} {h h' : Hp} {x0 x1 x2 x3 r : Int}  (hk4 : ∀ s o, k4 s = some o → EvB ω N_Md_owesInAll 2 (QB (some (iV o.1)) z o.2) z s.1 4 [some (aV ω s.2.1), some (iV s.2.2.1), some (iV s.2.2.2.1), some (iV s.2.2.2.2)] []) (hL : Md_owesInAll_b4_body  k4 h x0 x1 x2 x3 = some (r, h')) : EvB ω N_Md_owesInAll 2 (QB (some (iV r)) z h') z h 4 [some (aV ω x0), some (iV x1), some (iV x2), some (iV x3)] [] := by
  unfold Md_owesInAll_b4_body at hL
  refine ev_iload_n (pc := 4) (i := 3) dX10_owesInAll_4 rfl rfl ?_
  refine ev_aload_n (pc := 5) (i := 0) dX10_owesInAll_5 rfl rfl ?_
  obtain ⟨hs1, hL⟩ := cC_un hL
  refine ev_get (pc := 6) (c9 := 10) (k9 := 26) dX10_owesInAll_6 fl_Md_294 (by decide) hs1 gv10_26 ?_
  refine ev_icmp_ge (pc := 9) (tgt := 30) dX10_owesInAll_9 rfl hL rfl (fun hL => ?_) (fun hL => ?_)
  · refine ev_iload_n (pc := 12) (i := 2) dX10_owesInAll_12 rfl rfl ?_
    refine ev_aload_n (pc := 13) (i := 0) dX10_owesInAll_13 rfl rfl ?_
    refine ev_get (pc := 14) (c9 := 10) (k9 := 32) dX10_owesInAll_14 fl_Md_61 (by decide) hs1 (gv10_32 hs1) ?_
    refine ev_iload_n (pc := 17) (i := 1) dX10_owesInAll_17 rfl rfl ?_
    refine ev_iload_n (pc := 18) (i := 3) dX10_owesInAll_18 rfl rfl ?_
    obtain ⟨r2, h3, hc4, hL⟩ := cl_un hL
    refine evB_callS_I (pc := 19) (M_Md_owes hc4) dX10_owesInAll_19 mt_Md_owes st_Md_owes ml_Md_312 (Nat.le_of_ble_eq_true rfl) rfl rfl (Nat.le_trans (sm_1 (cat_iV _) sm_z) (by decide)) ?_
    refine ev_iadd (pc := 22) dX10_owesInAll_22 ?_
    refine ev_bdI hL (fun v5 hL => ?_)
    refine ev_istore_n (pc := 23) (i := 2) dX10_owesInAll_23 rfl (lnl_v rfl rfl) (Nat.le_of_ble_eq_true rfl) ?_
    refine ev_iinc (pc := 24) dX10_owesInAll_24 rfl (lnl_v rfl rfl) (Nat.le_of_ble_eq_true rfl) ?_
    refine ev_goto (pc := 27) (tgt := 4) dX10_owesInAll_27 rfl ?_
    exact ev_le (lvle_s (lvle_s (lvle_s (lvle_s lvle_z)))) (hk4 _ _ hL)
  · refine ev_iload_n (pc := 30) (i := 2) dX10_owesInAll_30 rfl rfl ?_
    exact evB_iret (pc := 31) dX10_owesInAll_31 rfl hL
set_option maxHeartbeats 1000000 in
set_option maxRecDepth 100000 in
theorem KMd_owesInAll_b4 {ω : Wd} {z : Nat → Prop}  {h h' : Hp} {x0 x1 x2 x3 r : Int}  (hL : Md_owesInAll_b4 h x0 x1 x2 x3 = some (r, h')) : EvB ω N_Md_owesInAll 2 (QB (some (iV r)) z h') z h 4 [some (aV ω x0), some (iV x1), some (iV x2), some (iV x3)] [] := by
  unfold Md_owesInAll_b4 at hL
  refine itr_link (P := fun (s : Hp × Int × Int × Int × Int) (o : Int × Hp) => EvB ω N_Md_owesInAll 2 (QB (some (iV o.1)) z o.2) z s.1 4 [some (aV ω s.2.1), some (iV s.2.2.1), some (iV s.2.2.2.1), some (iV s.2.2.2.2)] []) ?_ _ _ _ hL
  intro k hk s o h9
  have h10 := KMd_owesInAll_b4_body (ω := ω) (z := z) (k4 := k) (h := s.1) (x0 := s.2.1) (x1 := s.2.2.1) (x2 := s.2.2.2.1) (x3 := s.2.2.2.2) (r := o.1) (h' := o.2) 
  exact h10 hk h9
set_option maxHeartbeats 1000000 in
set_option maxRecDepth 100000 in
theorem M_Md_owesInAll {ω : Wd} {z : Nat → Prop} {h h' : Hp} {a0 a1 r : Int}  (hL : Md_owesInAll h a0 a1 = some (r, h')) : CtB ω N_Md_owesInAll 2 [aV ω a0, iV a1] z h (some (iV r)) h' := by
  unfold Md_owesInAll at hL
  refine Ct_of (lv := [some (aV ω a0), some (iV a1), none, none]) (by decide) (Nat.le_trans (sl_1 (cat_aV _ _) (sl_1 (cat_iV _) sl_z)) (Nat.le_of_ble_eq_true rfl)) (la_1 (cat_aV _ _) (la_1 (cat_iV _) (la_n (la_n la_z)))) ?_
  refine ev_iconst (pc := 0) dX10_owesInAll_0 ?_
  refine ev_istore_n (pc := 1) (i := 2) dX10_owesInAll_1 rfl (lnl_v rfl rfl) (Nat.le_of_ble_eq_true rfl) ?_
  refine ev_iconst (pc := 2) dX10_owesInAll_2 ?_
  refine ev_istore_n (pc := 3) (i := 3) dX10_owesInAll_3 rfl (lnl_v rfl rfl) (Nat.le_of_ble_eq_true rfl) ?_
  exact ev_le (lvle_s (lvle_s (lvle_s (lvle_s lvle_z)))) (KMd_owesInAll_b4  hL)
set_option maxHeartbeats 1000000 in
set_option maxRecDepth 100000 in
theorem KMd_free_b4_body {ω : Wd} {z : Nat → Prop}  {k4 : Hp × Int × Int × Int → Option (Int × Hp)} {h h' : Hp} {x0 x1 x2 r : Int}  (hk4 : ∀ s o, k4 s = some o → EvB ω N_Md_free 3 (QB (some (iV o.1)) z o.2) z s.1 4 [some (aV ω s.2.1), some (iV s.2.2.1), some (iV s.2.2.2)] []) (hL : Md_free_b4_body  k4 h x0 x1 x2 = some (r, h')) : EvB ω N_Md_free 3 (QB (some (iV r)) z h') z h 4 [some (aV ω x0), some (iV x1), some (iV x2)] [] := by
  unfold Md_free_b4_body at hL
  refine ev_iload_n (pc := 4) (i := 2) dX10_free_4 rfl rfl ?_
  refine ev_aload_n (pc := 5) (i := 0) dX10_free_5 rfl rfl ?_
  obtain ⟨hs1, hL⟩ := cC_un hL
  refine ev_get (pc := 6) (c9 := 10) (k9 := 26) dX10_free_6 fl_Md_294 (by decide) hs1 gv10_26 ?_
  refine ev_icmp_ge (pc := 9) (tgt := 36) dX10_free_9 rfl hL rfl (fun hL => ?_) (fun hL => ?_)
  · refine ev_iload_n (pc := 12) (i := 1) dX10_free_12 rfl rfl ?_
    refine ev_aload_n (pc := 13) (i := 0) dX10_free_13 rfl rfl ?_
    refine ev_iload_n (pc := 14) (i := 2) dX10_free_14 rfl rfl ?_
    obtain ⟨r2, h3, hc4, hL⟩ := cl_un hL
    refine evB_callV_I (pc := 15) (M_Md_owesInAll hc4) dX10_free_15 mt_Md_owesInAll st_Md_owesInAll ml_Md_366 hs1 (by decide) ⟨_, rfl, rfl⟩ (Nat.le_of_ble_eq_true rfl) rfl rfl (Nat.le_trans (sm_1 (cat_iV _) sm_z) (by decide)) ?_
    refine ev_if_ne (pc := 18) (tgt := 27) dX10_free_18 rfl hL rfl (fun hL => ?_) (fun hL => ?_)
    · refine ev_iconst (pc := 21) dX10_free_21 ?_
      refine ev_iload_n (pc := 22) (i := 2) dX10_free_22 rfl rfl ?_
      refine ev_ishl (pc := 23) dX10_free_23 ?_
      refine ev_goto (pc := 24) (tgt := 28) dX10_free_24 rfl ?_
      refine ev_ior (pc := 28) dX10_free_28 ?_
      refine ev_bdI hL (fun v5 hL => ?_)
      refine ev_istore_n (pc := 29) (i := 1) dX10_free_29 rfl (lnl_v (cat_aV _ _) rfl) (Nat.le_of_ble_eq_true rfl) ?_
      refine ev_iinc (pc := 30) dX10_free_30 rfl (lnl_v rfl rfl) (Nat.le_of_ble_eq_true rfl) ?_
      refine ev_goto (pc := 33) (tgt := 4) dX10_free_33 rfl ?_
      exact ev_le (lvle_s (lvle_s (lvle_s lvle_z))) (hk4 _ _ hL)
    · refine ev_iconst (pc := 27) dX10_free_27 ?_
      refine ev_ior (pc := 28) dX10_free_28 ?_
      refine ev_bdI hL (fun v6 hL => ?_)
      refine ev_istore_n (pc := 29) (i := 1) dX10_free_29 rfl (lnl_v (cat_aV _ _) rfl) (Nat.le_of_ble_eq_true rfl) ?_
      refine ev_iinc (pc := 30) dX10_free_30 rfl (lnl_v rfl rfl) (Nat.le_of_ble_eq_true rfl) ?_
      refine ev_goto (pc := 33) (tgt := 4) dX10_free_33 rfl ?_
      exact ev_le (lvle_s (lvle_s (lvle_s lvle_z))) (hk4 _ _ hL)
  · refine ev_iload_n (pc := 36) (i := 1) dX10_free_36 rfl rfl ?_
    exact evB_iret (pc := 37) dX10_free_37 rfl hL
set_option maxHeartbeats 1000000 in
set_option maxRecDepth 100000 in
theorem KMd_free_b4 {ω : Wd} {z : Nat → Prop}  {h h' : Hp} {x0 x1 x2 r : Int}  (hL : Md_free_b4 h x0 x1 x2 = some (r, h')) : EvB ω N_Md_free 3 (QB (some (iV r)) z h') z h 4 [some (aV ω x0), some (iV x1), some (iV x2)] [] := by
  unfold Md_free_b4 at hL
  refine itr_link (P := fun (s : Hp × Int × Int × Int) (o : Int × Hp) => EvB ω N_Md_free 3 (QB (some (iV o.1)) z o.2) z s.1 4 [some (aV ω s.2.1), some (iV s.2.2.1), some (iV s.2.2.2)] []) ?_ _ _ _ hL
  intro k hk s o h9
  have h10 := KMd_free_b4_body (ω := ω) (z := z) (k4 := k) (h := s.1) (x0 := s.2.1) (x1 := s.2.2.1) (x2 := s.2.2.2) (r := o.1) (h' := o.2) 
  exact h10 hk h9
set_option maxHeartbeats 1000000 in
set_option maxRecDepth 100000 in
theorem M_Md_free {ω : Wd} {z : Nat → Prop} {h h' : Hp} {a0 r : Int}  (hL : Md_free h a0 = some (r, h')) : CtB ω N_Md_free 3 [aV ω a0] z h (some (iV r)) h' := by
  unfold Md_free at hL
  refine Ct_of (lv := [some (aV ω a0), none, none]) (by decide) (Nat.le_trans (sl_1 (cat_aV _ _) sl_z) (Nat.le_of_ble_eq_true rfl)) (la_1 (cat_aV _ _) (la_n (la_n la_z))) ?_
  refine ev_iconst (pc := 0) dX10_free_0 ?_
  refine ev_istore_n (pc := 1) (i := 1) dX10_free_1 rfl (lnl_v (cat_aV _ _) rfl) (Nat.le_of_ble_eq_true rfl) ?_
  refine ev_iconst (pc := 2) dX10_free_2 ?_
  refine ev_istore_n (pc := 3) (i := 2) dX10_free_3 rfl (lnl_v rfl rfl) (Nat.le_of_ble_eq_true rfl) ?_
  exact ev_le (lvle_s (lvle_s (lvle_s lvle_z))) (KMd_free_b4  hL)
set_option maxHeartbeats 1000000 in
set_option maxRecDepth 100000 in
theorem M_Md_lonely {ω : Wd} {z : Nat → Prop} {h h' : Hp} {a0 a1 r : Int}  (hL : Md_lonely h a0 a1 = some (r, h')) : CtB ω N_Md_lonely 1 [aV ω a0, iV a1] z h (some (iV r)) h' := by
  unfold Md_lonely at hL
  refine Ct_of (lv := [some (aV ω a0), some (iV a1)]) (by decide) (Nat.le_trans (sl_1 (cat_aV _ _) (sl_1 (cat_iV _) sl_z)) (Nat.le_of_ble_eq_true rfl)) (la_1 (cat_aV _ _) (la_1 (cat_iV _) la_z)) ?_
  refine ev_aload_n (pc := 0) (i := 0) dX10_lonely_0 rfl rfl ?_
  refine ev_bipush (pc := 1) dX10_lonely_1 (by decide) ?_
  refine ev_iconst (pc := 3) dX10_lonely_3 ?_
  refine ev_iload_n (pc := 4) (i := 1) dX10_lonely_4 rfl rfl ?_
  refine ev_imul (pc := 5) dX10_lonely_5 ?_
  refine ev_iadd (pc := 6) dX10_lonely_6 ?_
  refine ev_iconst (pc := 7) dX10_lonely_7 ?_
  refine ev_iadd (pc := 8) dX10_lonely_8 ?_
  obtain ⟨q1a, q1b, q1c, hL⟩ := cX_un hL
  refine ev_iald (pc := 9) dX10_lonely_9 q1a q1b q1c ?_
  exact evB_iret (pc := 10) dX10_lonely_10 rfl hL
set_option maxHeartbeats 1000000 in
set_option maxRecDepth 100000 in
theorem M_Md_valueOf {ω : Wd} {z : Nat → Prop} {h h' : Hp} {a0 a1 a2 r : Int}  (hL : Md_valueOf h a0 a1 a2 = some (r, h')) : CtB ω N_Md_valueOf 3 [aV ω a0, iV a1, iV a2] z h (some (iV r)) h' := by
  unfold Md_valueOf at hL
  refine Ct_of (lv := [some (aV ω a0), some (iV a1), some (iV a2)]) (by decide) (Nat.le_trans (sl_1 (cat_aV _ _) (sl_1 (cat_iV _) (sl_1 (cat_iV _) sl_z))) (Nat.le_of_ble_eq_true rfl)) (la_1 (cat_aV _ _) (la_1 (cat_iV _) (la_1 (cat_iV _) la_z))) ?_
  refine ev_iload_n (pc := 0) (i := 1) dX10_valueOf_0 rfl rfl ?_
  refine ev_if_ne (pc := 1) (tgt := 15) dX10_valueOf_1 rfl hL rfl (fun hL => ?_) (fun hL => ?_)
  · refine ev_aload_n (pc := 4) (i := 0) dX10_valueOf_4 rfl rfl ?_
    obtain ⟨hs1, hL⟩ := cC_un hL
    refine ev_get (pc := 5) (c9 := 10) (k9 := 32) dX10_valueOf_5 fl_Md_61 (by decide) hs1 (gv10_32 hs1) ?_
    refine ev_iload_n (pc := 8) (i := 2) dX10_valueOf_8 rfl rfl ?_
    obtain ⟨r2, h3, hc4, hL⟩ := cl_un hL
    refine evB_callS_I (pc := 9) (M_Md_lonely hc4) dX10_valueOf_9 mt_Md_lonely st_Md_lonely ml_Md_334 (Nat.le_of_ble_eq_true rfl) rfl rfl (Nat.le_trans sm_z (by decide)) ?_
    refine ev_goto (pc := 12) (tgt := 59) dX10_valueOf_12 rfl ?_
    exact evB_iret (pc := 59) dX10_valueOf_59 rfl hL
  · refine ev_iload_n (pc := 15) (i := 1) dX10_valueOf_15 rfl rfl ?_
    refine ev_iconst (pc := 16) dX10_valueOf_16 ?_
    refine ev_icmp_ne (pc := 17) (tgt := 36) dX10_valueOf_17 rfl hL rfl (fun hL => ?_) (fun hL => ?_)
    · refine ev_aload_n (pc := 20) (i := 0) dX10_valueOf_20 rfl rfl ?_
      obtain ⟨hs5, hL⟩ := cC_un hL
      refine ev_get (pc := 21) (c9 := 10) (k9 := 32) dX10_valueOf_21 fl_Md_61 (by decide) hs5 (gv10_32 hs5) ?_
      refine ev_bipush (pc := 24) dX10_valueOf_24 (by decide) ?_
      refine ev_iconst (pc := 26) dX10_valueOf_26 ?_
      refine ev_iload_n (pc := 27) (i := 2) dX10_valueOf_27 rfl rfl ?_
      refine ev_imul (pc := 28) dX10_valueOf_28 ?_
      refine ev_iadd (pc := 29) dX10_valueOf_29 ?_
      refine ev_iconst (pc := 30) dX10_valueOf_30 ?_
      refine ev_iadd (pc := 31) dX10_valueOf_31 ?_
      obtain ⟨q6a, q6b, q6c, hL⟩ := cX_un hL
      refine ev_iald (pc := 32) dX10_valueOf_32 q6a q6b q6c ?_
      refine ev_goto (pc := 33) (tgt := 59) dX10_valueOf_33 rfl ?_
      exact evB_iret (pc := 59) dX10_valueOf_59 rfl hL
    · refine ev_iload_n (pc := 36) (i := 1) dX10_valueOf_36 rfl rfl ?_
      refine ev_iconst (pc := 37) dX10_valueOf_37 ?_
      refine ev_icmp_ne (pc := 38) (tgt := 54) dX10_valueOf_38 rfl hL rfl (fun hL => ?_) (fun hL => ?_)
      · refine ev_aload_n (pc := 41) (i := 0) dX10_valueOf_41 rfl rfl ?_
        obtain ⟨hs7, hL⟩ := cC_un hL
        refine ev_get (pc := 42) (c9 := 10) (k9 := 20) dX10_valueOf_42 fl_Md_43 (by decide) hs7 (gv10_20 hs7) ?_
        refine ev_iconst (pc := 45) dX10_valueOf_45 ?_
        refine ev_iload_n (pc := 46) (i := 2) dX10_valueOf_46 rfl rfl ?_
        refine ev_imul (pc := 47) dX10_valueOf_47 ?_
        refine ev_iconst (pc := 48) dX10_valueOf_48 ?_
        refine ev_iadd (pc := 49) dX10_valueOf_49 ?_
        obtain ⟨q8a, q8b, q8c, hL⟩ := cX_un hL
        refine ev_iald (pc := 50) dX10_valueOf_50 q8a q8b q8c ?_
        refine ev_goto (pc := 51) (tgt := 59) dX10_valueOf_51 rfl ?_
        exact evB_iret (pc := 59) dX10_valueOf_59 rfl hL
      · refine ev_aload_n (pc := 54) (i := 0) dX10_valueOf_54 rfl rfl ?_
        refine ev_iload_n (pc := 55) (i := 2) dX10_valueOf_55 rfl rfl ?_
        obtain ⟨hs9, hL⟩ := cC_un hL
        obtain ⟨r10, h11, hc12, hL⟩ := cl_un hL
        refine evB_callV_I (pc := 56) (M_Md_owesInAll hc12) dX10_valueOf_56 mt_Md_owesInAll st_Md_owesInAll ml_Md_366 hs9 (by decide) ⟨_, rfl, rfl⟩ (Nat.le_of_ble_eq_true rfl) rfl rfl (Nat.le_trans sm_z (by decide)) ?_
        exact evB_iret (pc := 59) dX10_valueOf_59 rfl hL
set_option maxHeartbeats 1000000 in
set_option maxRecDepth 100000 in
theorem KMd_greatest_b4_body {ω : Wd} {z : Nat → Prop}  {k4 : Hp × Int × Int × Int × Int → Option (Int × Hp)} {h h' : Hp} {x0 x1 x2 x3 r : Int}  (hk4 : ∀ s o, k4 s = some o → EvB ω N_Md_greatest 4 (QB (some (iV o.1)) z o.2) z s.1 4 [some (aV ω s.2.1), some (iV s.2.2.1), some (iV s.2.2.2.1), some (iV s.2.2.2.2)] []) (hL : Md_greatest_b4_body  k4 h x0 x1 x2 x3 = some (r, h')) : EvB ω N_Md_greatest 4 (QB (some (iV r)) z h') z h 4 [some (aV ω x0), some (iV x1), some (iV x2), some (iV x3)] [] := by
  unfold Md_greatest_b4_body at hL
  refine ev_iload_n (pc := 4) (i := 3) dX10_greatest_4 rfl rfl ?_
  refine ev_aload_n (pc := 5) (i := 0) dX10_greatest_5 rfl rfl ?_
  obtain ⟨hs1, hL⟩ := cC_un hL
  refine ev_get (pc := 6) (c9 := 10) (k9 := 26) dX10_greatest_6 fl_Md_294 (by decide) hs1 gv10_26 ?_
  refine ev_icmp_ge (pc := 9) (tgt := 39) dX10_greatest_9 rfl hL rfl (fun hL => ?_) (fun hL => ?_)
  · refine ev_aload_n (pc := 12) (i := 0) dX10_greatest_12 rfl rfl ?_
    refine ev_iload_n (pc := 13) (i := 1) dX10_greatest_13 rfl rfl ?_
    refine ev_iload_n (pc := 14) (i := 3) dX10_greatest_14 rfl rfl ?_
    obtain ⟨r2, h3, hc4, hL⟩ := cl_un hL
    refine evB_callV_I (pc := 15) (M_Md_valueOf hc4) dX10_greatest_15 mt_Md_valueOf st_Md_valueOf ml_Md_502 hs1 (by decide) ⟨_, rfl, rfl⟩ (Nat.le_of_ble_eq_true rfl) rfl rfl (Nat.le_trans sm_z (by decide)) ?_
    refine ev_aload_n (pc := 18) (i := 0) dX10_greatest_18 rfl rfl ?_
    refine ev_iload_n (pc := 19) (i := 1) dX10_greatest_19 rfl rfl ?_
    refine ev_iload_n (pc := 20) (i := 2) dX10_greatest_20 rfl rfl ?_
    obtain ⟨r5, h6, hc7, hL⟩ := cl_un hL
    refine evB_callV_I (pc := 21) (M_Md_valueOf hc7) dX10_greatest_21 mt_Md_valueOf st_Md_valueOf ml_Md_502 hs1 (by decide) ⟨_, rfl, rfl⟩ (Nat.le_of_ble_eq_true rfl) rfl rfl (Nat.le_trans (sm_1 (cat_iV _) sm_z) (by decide)) ?_
    refine ev_icmp_le (pc := 24) (tgt := 31) dX10_greatest_24 rfl hL rfl (fun hL => ?_) (fun hL => ?_)
    · refine ev_iload_n (pc := 27) (i := 3) dX10_greatest_27 rfl rfl ?_
      refine ev_goto (pc := 28) (tgt := 32) dX10_greatest_28 rfl ?_
      refine ev_istore_n (pc := 32) (i := 2) dX10_greatest_32 rfl (lnl_v rfl rfl) (Nat.le_of_ble_eq_true rfl) ?_
      refine ev_iinc (pc := 33) dX10_greatest_33 rfl (lnl_v rfl rfl) (Nat.le_of_ble_eq_true rfl) ?_
      refine ev_goto (pc := 36) (tgt := 4) dX10_greatest_36 rfl ?_
      exact ev_le (lvle_s (lvle_s (lvle_s (lvle_s lvle_z)))) (hk4 _ _ hL)
    · refine ev_iload_n (pc := 31) (i := 2) dX10_greatest_31 rfl rfl ?_
      refine ev_istore_n (pc := 32) (i := 2) dX10_greatest_32 rfl (lnl_v rfl rfl) (Nat.le_of_ble_eq_true rfl) ?_
      refine ev_iinc (pc := 33) dX10_greatest_33 rfl (lnl_v rfl rfl) (Nat.le_of_ble_eq_true rfl) ?_
      refine ev_goto (pc := 36) (tgt := 4) dX10_greatest_36 rfl ?_
      exact ev_le (lvle_s (lvle_s (lvle_s (lvle_s lvle_z)))) (hk4 _ _ hL)
  · refine ev_iload_n (pc := 39) (i := 2) dX10_greatest_39 rfl rfl ?_
    exact evB_iret (pc := 40) dX10_greatest_40 rfl hL
set_option maxHeartbeats 1000000 in
set_option maxRecDepth 100000 in
theorem KMd_greatest_b4 {ω : Wd} {z : Nat → Prop}  {h h' : Hp} {x0 x1 x2 x3 r : Int}  (hL : Md_greatest_b4 h x0 x1 x2 x3 = some (r, h')) : EvB ω N_Md_greatest 4 (QB (some (iV r)) z h') z h 4 [some (aV ω x0), some (iV x1), some (iV x2), some (iV x3)] [] := by
  unfold Md_greatest_b4 at hL
  refine itr_link (P := fun (s : Hp × Int × Int × Int × Int) (o : Int × Hp) => EvB ω N_Md_greatest 4 (QB (some (iV o.1)) z o.2) z s.1 4 [some (aV ω s.2.1), some (iV s.2.2.1), some (iV s.2.2.2.1), some (iV s.2.2.2.2)] []) ?_ _ _ _ hL
  intro k hk s o h9
  have h10 := KMd_greatest_b4_body (ω := ω) (z := z) (k4 := k) (h := s.1) (x0 := s.2.1) (x1 := s.2.2.1) (x2 := s.2.2.2.1) (x3 := s.2.2.2.2) (r := o.1) (h' := o.2) 
  exact h10 hk h9
set_option maxHeartbeats 1000000 in
set_option maxRecDepth 100000 in
theorem M_Md_greatest {ω : Wd} {z : Nat → Prop} {h h' : Hp} {a0 a1 r : Int}  (hL : Md_greatest h a0 a1 = some (r, h')) : CtB ω N_Md_greatest 4 [aV ω a0, iV a1] z h (some (iV r)) h' := by
  unfold Md_greatest at hL
  refine Ct_of (lv := [some (aV ω a0), some (iV a1), none, none]) (by decide) (Nat.le_trans (sl_1 (cat_aV _ _) (sl_1 (cat_iV _) sl_z)) (Nat.le_of_ble_eq_true rfl)) (la_1 (cat_aV _ _) (la_1 (cat_iV _) (la_n (la_n la_z)))) ?_
  refine ev_iconst (pc := 0) dX10_greatest_0 ?_
  refine ev_istore_n (pc := 1) (i := 2) dX10_greatest_1 rfl (lnl_v rfl rfl) (Nat.le_of_ble_eq_true rfl) ?_
  refine ev_iconst (pc := 2) dX10_greatest_2 ?_
  refine ev_istore_n (pc := 3) (i := 3) dX10_greatest_3 rfl (lnl_v rfl rfl) (Nat.le_of_ble_eq_true rfl) ?_
  exact ev_le (lvle_s (lvle_s (lvle_s (lvle_s lvle_z)))) (KMd_greatest_b4  hL)
set_option maxHeartbeats 1000000 in
set_option maxRecDepth 100000 in
theorem KMd_copy_b2_body {ω : Wd} {z : Nat → Prop}  {k2 : Hp × Int × Int × Int → Option (Int × Hp)} {h h' : Hp} {x0 x1 x2 r : Int}  (hk2 : ∀ s o, k2 s = some o → EvB ω N_Md_copy 1 (QB none z o.2) z s.1 2 [some (aV ω s.2.1), some (aV ω s.2.2.1), some (iV s.2.2.2)] []) (hL : Md_copy_b2_body  k2 h x0 x1 x2 = some (r, h')) : EvB ω N_Md_copy 1 (QB none z h') z h 2 [some (aV ω x0), some (aV ω x1), some (iV x2)] [] := by
  unfold Md_copy_b2_body at hL
  refine ev_iload_n (pc := 2) (i := 2) dX10_copy_2 rfl rfl ?_
  refine ev_bipush (pc := 3) dX10_copy_3 (by decide) ?_
  refine ev_icmp_ge (pc := 5) (tgt := 20) dX10_copy_5 rfl hL rfl (fun hL => ?_) (fun hL => ?_)
  · refine ev_aload_n (pc := 8) (i := 1) dX10_copy_8 rfl rfl ?_
    refine ev_iload_n (pc := 9) (i := 2) dX10_copy_9 rfl rfl ?_
    refine ev_aload_n (pc := 10) (i := 0) dX10_copy_10 rfl rfl ?_
    refine ev_iload_n (pc := 11) (i := 2) dX10_copy_11 rfl rfl ?_
    obtain ⟨q1a, q1b, q1c, hL⟩ := cX_un hL
    refine ev_iald (pc := 12) dX10_copy_12 q1a q1b q1c ?_
    obtain ⟨q2a, q2d, q2b, q2c, hL⟩ := cY_un hL
    refine ev_iast (pc := 13) dX10_copy_13 q2a q2d q2b q2c ?_
    refine ev_puG hL (fun h3 hL => ?_)
    refine ev_iinc (pc := 14) dX10_copy_14 rfl (lnl_v (cat_aV _ _) rfl) (Nat.le_of_ble_eq_true rfl) ?_
    refine ev_goto (pc := 17) (tgt := 2) dX10_copy_17 rfl ?_
    exact ev_le (lvle_s (lvle_s (lvle_s lvle_z))) (hk2 _ _ hL)
  · refine ev_aload_n (pc := 20) (i := 1) dX10_copy_20 rfl rfl ?_
    refine ev_bipush (pc := 21) dX10_copy_21 (by decide) ?_
    refine ev_iconst (pc := 23) dX10_copy_23 ?_
    obtain ⟨q4a, q4d, q4b, q4c, hL⟩ := cY_un hL
    refine ev_iast (pc := 24) dX10_copy_24 q4a q4d q4b q4c ?_
    refine ev_puG hL (fun h5 hL => ?_)
    exact evB_vret (pc := 25) dX10_copy_25 rfl hL
set_option maxHeartbeats 1000000 in
set_option maxRecDepth 100000 in
theorem KMd_copy_b2 {ω : Wd} {z : Nat → Prop}  {h h' : Hp} {x0 x1 x2 r : Int}  (hL : Md_copy_b2 h x0 x1 x2 = some (r, h')) : EvB ω N_Md_copy 1 (QB none z h') z h 2 [some (aV ω x0), some (aV ω x1), some (iV x2)] [] := by
  unfold Md_copy_b2 at hL
  refine itr_link (P := fun (s : Hp × Int × Int × Int) (o : Int × Hp) => EvB ω N_Md_copy 1 (QB none z o.2) z s.1 2 [some (aV ω s.2.1), some (aV ω s.2.2.1), some (iV s.2.2.2)] []) ?_ _ _ _ hL
  intro k hk s o h9
  have h10 := KMd_copy_b2_body (ω := ω) (z := z) (k2 := k) (h := s.1) (x0 := s.2.1) (x1 := s.2.2.1) (x2 := s.2.2.2) (r := o.1) (h' := o.2) 
  exact h10 hk h9
set_option maxHeartbeats 1000000 in
set_option maxRecDepth 100000 in
theorem M_Md_copy {ω : Wd} {z : Nat → Prop} {h h' : Hp} {a0 a1 r : Int}  (hL : Md_copy h a0 a1 = some (r, h')) : CtB ω N_Md_copy 1 [aV ω a0, aV ω a1] z h none h' := by
  unfold Md_copy at hL
  refine Ct_of (lv := [some (aV ω a0), some (aV ω a1), none]) (by decide) (Nat.le_trans (sl_1 (cat_aV _ _) (sl_1 (cat_aV _ _) sl_z)) (Nat.le_of_ble_eq_true rfl)) (la_1 (cat_aV _ _) (la_1 (cat_aV _ _) (la_n la_z))) ?_
  refine ev_iconst (pc := 0) dX10_copy_0 ?_
  refine ev_istore_n (pc := 1) (i := 2) dX10_copy_1 rfl (lnl_v (cat_aV _ _) rfl) (Nat.le_of_ble_eq_true rfl) ?_
  exact ev_le (lvle_s (lvle_s (lvle_s lvle_z))) (KMd_copy_b2  hL)
set_option maxHeartbeats 1000000 in
set_option maxRecDepth 100000 in
theorem M_Md_has {ω : Wd} {z : Nat → Prop} {h h' : Hp} {a0 a1 r : Int}  (hL : Md_has h a0 a1 = some (r, h')) : CtB ω N_Md_has 1 [iV a0, iV a1] z h (some (iV r)) h' := by
  unfold Md_has at hL
  refine Ct_of (lv := [some (iV a0), some (iV a1)]) (by decide) (Nat.le_trans (sl_1 (cat_iV _) (sl_1 (cat_iV _) sl_z)) (Nat.le_of_ble_eq_true rfl)) (la_1 (cat_iV _) (la_1 (cat_iV _) la_z)) ?_
  refine ev_iload_n (pc := 0) (i := 0) dX10_has_0 rfl rfl ?_
  refine ev_iload_n (pc := 1) (i := 1) dX10_has_1 rfl rfl ?_
  refine ev_ishr (pc := 2) dX10_has_2 ?_
  refine ev_iconst (pc := 3) dX10_has_3 ?_
  refine ev_iand (pc := 4) dX10_has_4 ?_
  refine ev_iconst (pc := 5) dX10_has_5 ?_
  refine ev_icmp_ne (pc := 6) (tgt := 13) dX10_has_6 rfl hL rfl (fun hL => ?_) (fun hL => ?_)
  · refine ev_iconst (pc := 9) dX10_has_9 ?_
    refine ev_goto (pc := 10) (tgt := 14) dX10_has_10 rfl ?_
    exact evB_zret (pc := 14) dX10_has_14 rfl rfl hL
  · refine ev_iconst (pc := 13) dX10_has_13 ?_
    exact evB_zret (pc := 14) dX10_has_14 rfl rfl hL
set_option maxHeartbeats 1000000 in
set_option maxRecDepth 100000 in
theorem KMd_books_b105 {ω : Wd} {z : Nat → Prop} {k23 : Hp × Int × Int × Int × Int → Option (Int × Hp)} {k36 : Hp × Int × Int × Int × Int × Int × Int → Option (Int × Hp)} {k51 : Hp × Int × Int × Int × Int × Int × Int × Int → Option (Int × Hp)} {h h' : Hp} {x0 x1 x2 x4 x5 x6 x7 y0 r : Int} (hk23 : ∀ s o, k23 s = some o → EvB ω N_Md_books 2 (QB none z o.2) z s.1 23 [some (aV ω s.2.1), some (aV ω s.2.2.1), some (iV s.2.2.2.1), some (iV s.2.2.2.2), none, none, none, none, none] []) (hk36 : ∀ s o, k36 s = some o → EvB ω N_Md_books 2 (QB none z o.2) z s.1 36 [some (aV ω s.2.1), some (aV ω s.2.2.1), some (iV s.2.2.2.1), none, some (iV s.2.2.2.2.1), some (iV s.2.2.2.2.2.1), some (iV s.2.2.2.2.2.2), none, none] []) (hk51 : ∀ s o, k51 s = some o → EvB ω N_Md_books 2 (QB none z o.2) z s.1 51 [some (aV ω s.2.1), some (aV ω s.2.2.1), some (iV s.2.2.2.1), none, some (iV s.2.2.2.2.1), some (iV s.2.2.2.2.2.1), some (iV s.2.2.2.2.2.2.1), some (iV s.2.2.2.2.2.2.2), none] []) (hL : Md_books_b105 k23 k36 k51 h x0 x1 x2 x4 x5 x6 x7 y0 = some (r, h')) : EvB ω N_Md_books 2 (QB none z h') z h 105 [some (aV ω x0), some (aV ω x1), some (iV x2), none, some (iV x4), some (iV x5), some (iV x6), some (iV x7), none] [iV y0] := by
  unfold Md_books_b105 at hL
  refine ev_istore (pc := 105) dX10_books_105 (lnl_v rfl rfl) (Nat.le_of_ble_eq_true rfl) ?_
  refine ev_iload (pc := 107) dX10_books_107 rfl ?_
  refine ev_if_eq (pc := 109) (tgt := 159) dX10_books_109 rfl hL rfl (fun hL => ?_) (fun hL => ?_)
  · refine ev_iinc (pc := 159) dX10_books_159 rfl (lnl_v rfl rfl) (Nat.le_of_ble_eq_true rfl) ?_
    refine ev_goto (pc := 162) (tgt := 51) dX10_books_162 rfl ?_
    exact ev_le (lvle_s (lvle_s (lvle_s (lvle_n (lvle_s (lvle_s (lvle_s (lvle_s (lvle_n lvle_z))))))))) (hk51 _ _ hL)
  · refine ev_aload_n (pc := 112) (i := 1) dX10_books_112 rfl rfl ?_
    refine ev_iload (pc := 113) dX10_books_113 rfl ?_
    refine ev_iload (pc := 115) dX10_books_115 rfl ?_
    obtain ⟨r15, h16, hc17, hL⟩ := cl_un hL
    refine evB_callS_I (pc := 117) (M_Md_owes hc17) dX10_books_117 mt_Md_owes st_Md_owes ml_Md_312 (Nat.le_of_ble_eq_true rfl) rfl rfl (Nat.le_trans sm_z (by decide)) ?_
    refine ev_if_eq (pc := 120) (tgt := 159) dX10_books_120 rfl hL rfl (fun hL => ?_) (fun hL => ?_)
    · refine ev_iinc (pc := 159) dX10_books_159 rfl (lnl_v rfl rfl) (Nat.le_of_ble_eq_true rfl) ?_
      refine ev_goto (pc := 162) (tgt := 51) dX10_books_162 rfl ?_
      exact ev_le (lvle_s (lvle_s (lvle_s (lvle_n (lvle_s (lvle_s (lvle_s (lvle_s (lvle_n lvle_z))))))))) (hk51 _ _ hL)
    · refine ev_iload (pc := 123) dX10_books_123 rfl ?_
      refine ev_iconst (pc := 125) dX10_books_125 ?_
      refine ev_icmp_eq (pc := 126) (tgt := 151) dX10_books_126 rfl hL rfl (fun hL => ?_) (fun hL => ?_)
      · refine ev_iload (pc := 151) dX10_books_151 rfl ?_
        refine ev_istore (pc := 153) dX10_books_153 (lnl_n rfl) (Nat.le_of_ble_eq_true rfl) ?_
        refine ev_iload (pc := 155) dX10_books_155 rfl ?_
        refine ev_istore (pc := 157) dX10_books_157 (lnl_v rfl rfl) (Nat.le_of_ble_eq_true rfl) ?_
        refine ev_iinc (pc := 159) dX10_books_159 rfl (lnl_v rfl rfl) (Nat.le_of_ble_eq_true rfl) ?_
        refine ev_goto (pc := 162) (tgt := 51) dX10_books_162 rfl ?_
        exact ev_le (lvle_s (lvle_s (lvle_s (lvle_n (lvle_s (lvle_s (lvle_s (lvle_s (lvle_n lvle_z))))))))) (hk51 _ _ hL)
      · refine ev_aload_n (pc := 129) (i := 1) dX10_books_129 rfl rfl ?_
        refine ev_iload (pc := 130) dX10_books_130 rfl ?_
        refine ev_iload (pc := 132) dX10_books_132 rfl ?_
        obtain ⟨r18, h19, hc20, hL⟩ := cl_un hL
        refine evB_callS_I (pc := 134) (M_Md_owes hc20) dX10_books_134 mt_Md_owes st_Md_owes ml_Md_312 (Nat.le_of_ble_eq_true rfl) rfl rfl (Nat.le_trans sm_z (by decide)) ?_
        refine ev_aload_n (pc := 137) (i := 1) dX10_books_137 rfl rfl ?_
        refine ev_iload (pc := 138) dX10_books_138 rfl ?_
        refine ev_iload (pc := 140) dX10_books_140 rfl ?_
        obtain ⟨r21, h22, hc23, hL⟩ := cl_un hL
        refine evB_callS_I (pc := 142) (M_Md_owes hc23) dX10_books_142 mt_Md_owes st_Md_owes ml_Md_312 (Nat.le_of_ble_eq_true rfl) rfl rfl (Nat.le_trans (sm_1 (cat_iV _) sm_z) (by decide)) ?_
        refine ev_icmp_gt (pc := 145) (tgt := 151) dX10_books_145 rfl hL rfl (fun hL => ?_) (fun hL => ?_)
        · refine ev_iload (pc := 151) dX10_books_151 rfl ?_
          refine ev_istore (pc := 153) dX10_books_153 (lnl_n rfl) (Nat.le_of_ble_eq_true rfl) ?_
          refine ev_iload (pc := 155) dX10_books_155 rfl ?_
          refine ev_istore (pc := 157) dX10_books_157 (lnl_v rfl rfl) (Nat.le_of_ble_eq_true rfl) ?_
          refine ev_iinc (pc := 159) dX10_books_159 rfl (lnl_v rfl rfl) (Nat.le_of_ble_eq_true rfl) ?_
          refine ev_goto (pc := 162) (tgt := 51) dX10_books_162 rfl ?_
          exact ev_le (lvle_s (lvle_s (lvle_s (lvle_n (lvle_s (lvle_s (lvle_s (lvle_s (lvle_n lvle_z))))))))) (hk51 _ _ hL)
        · refine ev_goto (pc := 148) (tgt := 159) dX10_books_148 rfl ?_
          refine ev_iinc (pc := 159) dX10_books_159 rfl (lnl_v rfl rfl) (Nat.le_of_ble_eq_true rfl) ?_
          refine ev_goto (pc := 162) (tgt := 51) dX10_books_162 rfl ?_
          exact ev_le (lvle_s (lvle_s (lvle_s (lvle_n (lvle_s (lvle_s (lvle_s (lvle_s (lvle_n lvle_z))))))))) (hk51 _ _ hL)
set_option maxHeartbeats 1000000 in
set_option maxRecDepth 100000 in
theorem KMd_books_b51_body {ω : Wd} {z : Nat → Prop} {k23 : Hp × Int × Int × Int × Int → Option (Int × Hp)} {k36 : Hp × Int × Int × Int × Int × Int × Int → Option (Int × Hp)} {k51 : Hp × Int × Int × Int × Int × Int × Int × Int → Option (Int × Hp)} {h h' : Hp} {x0 x1 x2 x4 x5 x6 x7 r : Int} (hk23 : ∀ s o, k23 s = some o → EvB ω N_Md_books 2 (QB none z o.2) z s.1 23 [some (aV ω s.2.1), some (aV ω s.2.2.1), some (iV s.2.2.2.1), some (iV s.2.2.2.2), none, none, none, none, none] []) (hk36 : ∀ s o, k36 s = some o → EvB ω N_Md_books 2 (QB none z o.2) z s.1 36 [some (aV ω s.2.1), some (aV ω s.2.2.1), some (iV s.2.2.2.1), none, some (iV s.2.2.2.2.1), some (iV s.2.2.2.2.2.1), some (iV s.2.2.2.2.2.2), none, none] []) (hk51 : ∀ s o, k51 s = some o → EvB ω N_Md_books 2 (QB none z o.2) z s.1 51 [some (aV ω s.2.1), some (aV ω s.2.2.1), some (iV s.2.2.2.1), none, some (iV s.2.2.2.2.1), some (iV s.2.2.2.2.2.1), some (iV s.2.2.2.2.2.2.1), some (iV s.2.2.2.2.2.2.2), none] []) (hL : Md_books_b51_body k23 k36 k51 h x0 x1 x2 x4 x5 x6 x7 = some (r, h')) : EvB ω N_Md_books 2 (QB none z h') z h 51 [some (aV ω x0), some (aV ω x1), some (iV x2), none, some (iV x4), some (iV x5), some (iV x6), some (iV x7), none] [] := by
  unfold Md_books_b51_body at hL
  refine ev_iload (pc := 51) dX10_books_51 rfl ?_
  refine ev_aload_n (pc := 53) (i := 0) dX10_books_53 rfl rfl ?_
  obtain ⟨hs6, hL⟩ := cC_un hL
  refine ev_get (pc := 54) (c9 := 10) (k9 := 26) dX10_books_54 fl_Md_294 (by decide) hs6 gv10_26 ?_
  refine ev_icmp_ge (pc := 57) (tgt := 165) dX10_books_57 rfl hL rfl (fun hL => ?_) (fun hL => ?_)
  · refine ev_aload_n (pc := 60) (i := 0) dX10_books_60 rfl rfl ?_
    refine ev_get (pc := 61) (c9 := 10) (k9 := 38) dX10_books_61 fl_Md_81 (by decide) hs6 (gv10_38 hs6) ?_
    refine ev_iload (pc := 64) dX10_books_64 rfl ?_
    obtain ⟨q7a, q7b, q7c, hL⟩ := cX_un hL
    refine ev_iald (pc := 66) dX10_books_66 q7a q7b q7c ?_
    refine ev_iconst (pc := 67) dX10_books_67 ?_
    refine ev_icmp_ne (pc := 68) (tgt := 104) dX10_books_68 rfl hL rfl (fun hL => ?_) (fun hL => ?_)
    · refine ev_aload_n (pc := 71) (i := 0) dX10_books_71 rfl rfl ?_
      refine ev_get (pc := 72) (c9 := 10) (k9 := 38) dX10_books_72 fl_Md_81 (by decide) hs6 (gv10_38 hs6) ?_
      refine ev_iload (pc := 75) dX10_books_75 rfl ?_
      obtain ⟨q8a, q8b, q8c, hL⟩ := cX_un hL
      refine ev_iald (pc := 77) dX10_books_77 q8a q8b q8c ?_
      refine ev_iconst (pc := 78) dX10_books_78 ?_
      refine ev_icmp_ne (pc := 79) (tgt := 104) dX10_books_79 rfl hL rfl (fun hL => ?_) (fun hL => ?_)
      · refine ev_iload_n (pc := 82) (i := 2) dX10_books_82 rfl rfl ?_
        refine ev_iload (pc := 83) dX10_books_83 rfl ?_
        obtain ⟨r9, h10, hc11, hL⟩ := cl_un hL
        refine evB_callS_I (pc := 85) (M_Md_has hc11) dX10_books_85 mt_Md_has st_Md_has ml_Md_229 (Nat.le_of_ble_eq_true rfl) rfl rfl (Nat.le_trans sm_z (by decide)) ?_
        refine ev_if_ne (pc := 88) (tgt := 104) dX10_books_88 rfl hL rfl (fun hL => ?_) (fun hL => ?_)
        · refine ev_iload_n (pc := 91) (i := 2) dX10_books_91 rfl rfl ?_
          refine ev_iload (pc := 92) dX10_books_92 rfl ?_
          obtain ⟨r12, h13, hc14, hL⟩ := cl_un hL
          refine evB_callS_I (pc := 94) (M_Md_has hc14) dX10_books_94 mt_Md_has st_Md_has ml_Md_229 (Nat.le_of_ble_eq_true rfl) rfl rfl (Nat.le_trans sm_z (by decide)) ?_
          refine ev_if_ne (pc := 97) (tgt := 104) dX10_books_97 rfl hL rfl (fun hL => ?_) (fun hL => ?_)
          · refine ev_iconst (pc := 100) dX10_books_100 ?_
            refine ev_goto (pc := 101) (tgt := 105) dX10_books_101 rfl ?_
            exact ev_le (lvle_s (lvle_s (lvle_s (lvle_n (lvle_s (lvle_s (lvle_s (lvle_s (lvle_n lvle_z))))))))) (KMd_books_b105 hk23 hk36 hk51 hL)
          · refine ev_iconst (pc := 104) dX10_books_104 ?_
            exact ev_le (lvle_s (lvle_s (lvle_s (lvle_n (lvle_s (lvle_s (lvle_s (lvle_s (lvle_n lvle_z))))))))) (KMd_books_b105 hk23 hk36 hk51 hL)
        · refine ev_iconst (pc := 104) dX10_books_104 ?_
          exact ev_le (lvle_s (lvle_s (lvle_s (lvle_n (lvle_s (lvle_s (lvle_s (lvle_s (lvle_n lvle_z))))))))) (KMd_books_b105 hk23 hk36 hk51 hL)
      · refine ev_iconst (pc := 104) dX10_books_104 ?_
        exact ev_le (lvle_s (lvle_s (lvle_s (lvle_n (lvle_s (lvle_s (lvle_s (lvle_s (lvle_n lvle_z))))))))) (KMd_books_b105 hk23 hk36 hk51 hL)
    · refine ev_iconst (pc := 104) dX10_books_104 ?_
      exact ev_le (lvle_s (lvle_s (lvle_s (lvle_n (lvle_s (lvle_s (lvle_s (lvle_s (lvle_n lvle_z))))))))) (KMd_books_b105 hk23 hk36 hk51 hL)
  · refine ev_iinc (pc := 165) dX10_books_165 rfl (lnl_v rfl rfl) (Nat.le_of_ble_eq_true rfl) ?_
    refine ev_goto (pc := 168) (tgt := 36) dX10_books_168 rfl ?_
    exact ev_le (lvle_s (lvle_s (lvle_s (lvle_n (lvle_s (lvle_s (lvle_s (lvle_n (lvle_n lvle_z))))))))) (hk36 _ _ hL)
set_option maxHeartbeats 1000000 in
set_option maxRecDepth 100000 in
theorem KMd_books_b51 {ω : Wd} {z : Nat → Prop} {k23 : Hp × Int × Int × Int × Int → Option (Int × Hp)} {k36 : Hp × Int × Int × Int × Int × Int × Int → Option (Int × Hp)} {h h' : Hp} {x0 x1 x2 x4 x5 x6 x7 r : Int} (hk23 : ∀ s o, k23 s = some o → EvB ω N_Md_books 2 (QB none z o.2) z s.1 23 [some (aV ω s.2.1), some (aV ω s.2.2.1), some (iV s.2.2.2.1), some (iV s.2.2.2.2), none, none, none, none, none] []) (hk36 : ∀ s o, k36 s = some o → EvB ω N_Md_books 2 (QB none z o.2) z s.1 36 [some (aV ω s.2.1), some (aV ω s.2.2.1), some (iV s.2.2.2.1), none, some (iV s.2.2.2.2.1), some (iV s.2.2.2.2.2.1), some (iV s.2.2.2.2.2.2), none, none] []) (hL : Md_books_b51 k23 k36 h x0 x1 x2 x4 x5 x6 x7 = some (r, h')) : EvB ω N_Md_books 2 (QB none z h') z h 51 [some (aV ω x0), some (aV ω x1), some (iV x2), none, some (iV x4), some (iV x5), some (iV x6), some (iV x7), none] [] := by
  unfold Md_books_b51 at hL
  refine itr_link (P := fun (s : Hp × Int × Int × Int × Int × Int × Int × Int) (o : Int × Hp) => EvB ω N_Md_books 2 (QB none z o.2) z s.1 51 [some (aV ω s.2.1), some (aV ω s.2.2.1), some (iV s.2.2.2.1), none, some (iV s.2.2.2.2.1), some (iV s.2.2.2.2.2.1), some (iV s.2.2.2.2.2.2.1), some (iV s.2.2.2.2.2.2.2), none] []) ?_ _ _ _ hL
  intro k hk s o h9
  have h10 := KMd_books_b51_body (ω := ω) (z := z) (k23 := k23) (k36 := k36) (k51 := k) (h := s.1) (x0 := s.2.1) (x1 := s.2.2.1) (x2 := s.2.2.2.1) (x4 := s.2.2.2.2.1) (x5 := s.2.2.2.2.2.1) (x6 := s.2.2.2.2.2.2.1) (x7 := s.2.2.2.2.2.2.2) (r := o.1) (h' := o.2) hk23 hk36
  exact h10 hk h9
set_option maxHeartbeats 1000000 in
set_option maxRecDepth 100000 in
theorem KMd_books_b182 {ω : Wd} {z : Nat → Prop} {k23 : Hp × Int × Int × Int × Int → Option (Int × Hp)} {h h' : Hp} {x0 x1 x2 x4 x5 y0 r : Int} (hk23 : ∀ s o, k23 s = some o → EvB ω N_Md_books 2 (QB none z o.2) z s.1 23 [some (aV ω s.2.1), some (aV ω s.2.2.1), some (iV s.2.2.2.1), some (iV s.2.2.2.2), none, none, none, none, none] []) (hL : Md_books_b182 k23 h x0 x1 x2 x4 x5 y0 = some (r, h')) : EvB ω N_Md_books 2 (QB none z h') z h 182 [some (aV ω x0), some (aV ω x1), some (iV x2), none, some (iV x4), some (iV x5), none, none, none] [iV y0] := by
  unfold Md_books_b182 at hL
  refine ev_istore_n (pc := 182) (i := 3) dX10_books_182 rfl (lnl_v rfl rfl) (Nat.le_of_ble_eq_true rfl) ?_
  refine ev_iload_n (pc := 183) (i := 3) dX10_books_183 rfl rfl ?_
  refine ev_if_eq (pc := 184) (tgt := 205) dX10_books_184 rfl hL rfl (fun hL => ?_) (fun hL => ?_)
  · refine ev_goto (pc := 205) (tgt := 23) dX10_books_205 rfl ?_
    exact ev_le (lvle_s (lvle_s (lvle_s (lvle_s (lvle_n (lvle_n (lvle_n (lvle_n (lvle_n lvle_z))))))))) (hk23 _ _ hL)
  · refine ev_aload_n (pc := 187) (i := 0) dX10_books_187 rfl rfl ?_
    obtain ⟨hs24, hL⟩ := cC_un hL
    refine ev_get (pc := 188) (c9 := 10) (k9 := 38) dX10_books_188 fl_Md_81 (by decide) hs24 (gv10_38 hs24) ?_
    refine ev_iload (pc := 191) dX10_books_191 rfl ?_
    refine ev_iload (pc := 193) dX10_books_193 rfl ?_
    obtain ⟨q25a, q25d, q25b, q25c, hL⟩ := cY_un hL
    refine ev_iast (pc := 195) dX10_books_195 q25a q25d q25b q25c ?_
    refine ev_puG hL (fun h26 hL => ?_)
    refine ev_aload_n (pc := 196) (i := 0) dX10_books_196 rfl rfl ?_
    refine ev_get (pc := 197) (c9 := 10) (k9 := 38) dX10_books_197 fl_Md_81 (by decide) hs24 (gv10_38 hs24) ?_
    refine ev_iload (pc := 200) dX10_books_200 rfl ?_
    refine ev_iload (pc := 202) dX10_books_202 rfl ?_
    obtain ⟨q27a, q27d, q27b, q27c, hL⟩ := cY_un hL
    refine ev_iast (pc := 204) dX10_books_204 q27a q27d q27b q27c ?_
    refine ev_puG hL (fun h28 hL => ?_)
    refine ev_goto (pc := 205) (tgt := 23) dX10_books_205 rfl ?_
    exact ev_le (lvle_s (lvle_s (lvle_s (lvle_s (lvle_n (lvle_n (lvle_n (lvle_n (lvle_n lvle_z))))))))) (hk23 _ _ hL)
set_option maxHeartbeats 1000000 in
set_option maxRecDepth 100000 in
theorem KMd_books_b36_body {ω : Wd} {z : Nat → Prop} {k23 : Hp × Int × Int × Int × Int → Option (Int × Hp)} {k36 : Hp × Int × Int × Int × Int × Int × Int → Option (Int × Hp)} {h h' : Hp} {x0 x1 x2 x4 x5 x6 r : Int} (hk23 : ∀ s o, k23 s = some o → EvB ω N_Md_books 2 (QB none z o.2) z s.1 23 [some (aV ω s.2.1), some (aV ω s.2.2.1), some (iV s.2.2.2.1), some (iV s.2.2.2.2), none, none, none, none, none] []) (hk36 : ∀ s o, k36 s = some o → EvB ω N_Md_books 2 (QB none z o.2) z s.1 36 [some (aV ω s.2.1), some (aV ω s.2.2.1), some (iV s.2.2.2.1), none, some (iV s.2.2.2.2.1), some (iV s.2.2.2.2.2.1), some (iV s.2.2.2.2.2.2), none, none] []) (hL : Md_books_b36_body k23 k36 h x0 x1 x2 x4 x5 x6 = some (r, h')) : EvB ω N_Md_books 2 (QB none z h') z h 36 [some (aV ω x0), some (aV ω x1), some (iV x2), none, some (iV x4), some (iV x5), some (iV x6), none, none] [] := by
  unfold Md_books_b36_body at hL
  refine ev_iload (pc := 36) dX10_books_36 rfl ?_
  refine ev_aload_n (pc := 38) (i := 0) dX10_books_38 rfl rfl ?_
  obtain ⟨hs4, hL⟩ := cC_un hL
  refine ev_get (pc := 39) (c9 := 10) (k9 := 26) dX10_books_39 fl_Md_294 (by decide) hs4 gv10_26 ?_
  refine ev_icmp_ge (pc := 42) (tgt := 171) dX10_books_42 rfl hL rfl (fun hL => ?_) (fun hL => ?_)
  · refine ev_iload (pc := 45) dX10_books_45 rfl ?_
    refine ev_iconst (pc := 47) dX10_books_47 ?_
    refine ev_iadd (pc := 48) dX10_books_48 ?_
    refine ev_bdI hL (fun v5 hL => ?_)
    refine ev_istore (pc := 49) dX10_books_49 (lnl_v rfl rfl) (Nat.le_of_ble_eq_true rfl) ?_
    exact ev_le (lvle_s (lvle_s (lvle_s (lvle_n (lvle_s (lvle_s (lvle_s (lvle_s (lvle_n lvle_z))))))))) (KMd_books_b51 hk23 hk36 hL)
  · refine ev_iload (pc := 171) dX10_books_171 rfl ?_
    refine ev_iconst (pc := 173) dX10_books_173 ?_
    refine ev_icmp_eq (pc := 174) (tgt := 181) dX10_books_174 rfl hL rfl (fun hL => ?_) (fun hL => ?_)
    · refine ev_iconst (pc := 181) dX10_books_181 ?_
      exact ev_le (lvle_s (lvle_s (lvle_s (lvle_n (lvle_s (lvle_s (lvle_n (lvle_n (lvle_n lvle_z))))))))) (KMd_books_b182 hk23 hL)
    · refine ev_iconst (pc := 177) dX10_books_177 ?_
      refine ev_goto (pc := 178) (tgt := 182) dX10_books_178 rfl ?_
      exact ev_le (lvle_s (lvle_s (lvle_s (lvle_n (lvle_s (lvle_s (lvle_n (lvle_n (lvle_n lvle_z))))))))) (KMd_books_b182 hk23 hL)
set_option maxHeartbeats 1000000 in
set_option maxRecDepth 100000 in
theorem KMd_books_b36 {ω : Wd} {z : Nat → Prop} {k23 : Hp × Int × Int × Int × Int → Option (Int × Hp)} {h h' : Hp} {x0 x1 x2 x4 x5 x6 r : Int} (hk23 : ∀ s o, k23 s = some o → EvB ω N_Md_books 2 (QB none z o.2) z s.1 23 [some (aV ω s.2.1), some (aV ω s.2.2.1), some (iV s.2.2.2.1), some (iV s.2.2.2.2), none, none, none, none, none] []) (hL : Md_books_b36 k23 h x0 x1 x2 x4 x5 x6 = some (r, h')) : EvB ω N_Md_books 2 (QB none z h') z h 36 [some (aV ω x0), some (aV ω x1), some (iV x2), none, some (iV x4), some (iV x5), some (iV x6), none, none] [] := by
  unfold Md_books_b36 at hL
  refine itr_link (P := fun (s : Hp × Int × Int × Int × Int × Int × Int) (o : Int × Hp) => EvB ω N_Md_books 2 (QB none z o.2) z s.1 36 [some (aV ω s.2.1), some (aV ω s.2.2.1), some (iV s.2.2.2.1), none, some (iV s.2.2.2.2.1), some (iV s.2.2.2.2.2.1), some (iV s.2.2.2.2.2.2), none, none] []) ?_ _ _ _ hL
  intro k hk s o h9
  have h10 := KMd_books_b36_body (ω := ω) (z := z) (k23 := k23) (k36 := k) (h := s.1) (x0 := s.2.1) (x1 := s.2.2.1) (x2 := s.2.2.2.1) (x4 := s.2.2.2.2.1) (x5 := s.2.2.2.2.2.1) (x6 := s.2.2.2.2.2.2) (r := o.1) (h' := o.2) hk23
  exact h10 hk h9
set_option maxHeartbeats 1000000 in
set_option maxRecDepth 100000 in
theorem KMd_books_b23_body {ω : Wd} {z : Nat → Prop}  {k23 : Hp × Int × Int × Int × Int → Option (Int × Hp)} {h h' : Hp} {x0 x1 x2 x3 r : Int}  (hk23 : ∀ s o, k23 s = some o → EvB ω N_Md_books 2 (QB none z o.2) z s.1 23 [some (aV ω s.2.1), some (aV ω s.2.2.1), some (iV s.2.2.2.1), some (iV s.2.2.2.2), none, none, none, none, none] []) (hL : Md_books_b23_body  k23 h x0 x1 x2 x3 = some (r, h')) : EvB ω N_Md_books 2 (QB none z h') z h 23 [some (aV ω x0), some (aV ω x1), some (iV x2), some (iV x3), none, none, none, none, none] [] := by
  unfold Md_books_b23_body at hL
  refine ev_iload_n (pc := 23) (i := 3) dX10_books_23 rfl rfl ?_
  refine ev_if_eq (pc := 24) (tgt := 208) dX10_books_24 rfl hL rfl (fun hL => ?_) (fun hL => ?_)
  · exact evB_vret (pc := 208) dX10_books_208 rfl hL
  · refine ev_iconst (pc := 27) dX10_books_27 ?_
    refine ev_istore (pc := 28) dX10_books_28 (lnl_v rfl rfl) (Nat.le_of_ble_eq_true rfl) ?_
    refine ev_iconst (pc := 30) dX10_books_30 ?_
    refine ev_istore (pc := 31) dX10_books_31 (lnl_v rfl rfl) (Nat.le_of_ble_eq_true rfl) ?_
    refine ev_iconst (pc := 33) dX10_books_33 ?_
    refine ev_istore (pc := 34) dX10_books_34 (lnl_v rfl rfl) (Nat.le_of_ble_eq_true rfl) ?_
    exact ev_le (lvle_s (lvle_s (lvle_s (lvle_n (lvle_s (lvle_s (lvle_s (lvle_n (lvle_n lvle_z))))))))) (KMd_books_b36 hk23 hL)
set_option maxHeartbeats 1000000 in
set_option maxRecDepth 100000 in
theorem KMd_books_b23 {ω : Wd} {z : Nat → Prop}  {h h' : Hp} {x0 x1 x2 x3 r : Int}  (hL : Md_books_b23 h x0 x1 x2 x3 = some (r, h')) : EvB ω N_Md_books 2 (QB none z h') z h 23 [some (aV ω x0), some (aV ω x1), some (iV x2), some (iV x3), none, none, none, none, none] [] := by
  unfold Md_books_b23 at hL
  refine itr_link (P := fun (s : Hp × Int × Int × Int × Int) (o : Int × Hp) => EvB ω N_Md_books 2 (QB none z o.2) z s.1 23 [some (aV ω s.2.1), some (aV ω s.2.2.1), some (iV s.2.2.2.1), some (iV s.2.2.2.2), none, none, none, none, none] []) ?_ _ _ _ hL
  intro k hk s o h9
  have h10 := KMd_books_b23_body (ω := ω) (z := z) (k23 := k) (h := s.1) (x0 := s.2.1) (x1 := s.2.2.1) (x2 := s.2.2.2.1) (x3 := s.2.2.2.2) (r := o.1) (h' := o.2) 
  exact h10 hk h9
set_option maxHeartbeats 1000000 in
set_option maxRecDepth 100000 in
theorem KMd_books_b2_body {ω : Wd} {z : Nat → Prop}  {k2 : Hp × Int × Int × Int × Int → Option (Int × Hp)} {h h' : Hp} {x0 x1 x2 x3 r : Int}  (hk2 : ∀ s o, k2 s = some o → EvB ω N_Md_books 2 (QB none z o.2) z s.1 2 [some (aV ω s.2.1), some (aV ω s.2.2.1), some (iV s.2.2.2.1), some (iV s.2.2.2.2), none, none, none, none, none] []) (hL : Md_books_b2_body  k2 h x0 x1 x2 x3 = some (r, h')) : EvB ω N_Md_books 2 (QB none z h') z h 2 [some (aV ω x0), some (aV ω x1), some (iV x2), some (iV x3), none, none, none, none, none] [] := by
  unfold Md_books_b2_body at hL
  refine ev_iload_n (pc := 2) (i := 3) dX10_books_2 rfl rfl ?_
  refine ev_bipush (pc := 3) dX10_books_3 (by decide) ?_
  refine ev_icmp_ge (pc := 5) (tgt := 21) dX10_books_5 rfl hL rfl (fun hL => ?_) (fun hL => ?_)
  · refine ev_aload_n (pc := 8) (i := 0) dX10_books_8 rfl rfl ?_
    obtain ⟨hs1, hL⟩ := cC_un hL
    refine ev_get (pc := 9) (c9 := 10) (k9 := 38) dX10_books_9 fl_Md_81 (by decide) hs1 (gv10_38 hs1) ?_
    refine ev_iload_n (pc := 12) (i := 3) dX10_books_12 rfl rfl ?_
    refine ev_iconst (pc := 13) dX10_books_13 ?_
    obtain ⟨q2a, q2d, q2b, q2c, hL⟩ := cY_un hL
    refine ev_iast (pc := 14) dX10_books_14 q2a q2d q2b q2c ?_
    refine ev_puG hL (fun h3 hL => ?_)
    refine ev_iinc (pc := 15) dX10_books_15 rfl (lnl_v rfl rfl) (Nat.le_of_ble_eq_true rfl) ?_
    refine ev_goto (pc := 18) (tgt := 2) dX10_books_18 rfl ?_
    exact ev_le (lvle_s (lvle_s (lvle_s (lvle_s (lvle_n (lvle_n (lvle_n (lvle_n (lvle_n lvle_z))))))))) (hk2 _ _ hL)
  · refine ev_iconst (pc := 21) dX10_books_21 ?_
    refine ev_istore_n (pc := 22) (i := 3) dX10_books_22 rfl (lnl_v rfl rfl) (Nat.le_of_ble_eq_true rfl) ?_
    exact ev_le (lvle_s (lvle_s (lvle_s (lvle_s (lvle_n (lvle_n (lvle_n (lvle_n (lvle_n lvle_z))))))))) (KMd_books_b23  hL)
set_option maxHeartbeats 1000000 in
set_option maxRecDepth 100000 in
theorem KMd_books_b2 {ω : Wd} {z : Nat → Prop}  {h h' : Hp} {x0 x1 x2 x3 r : Int}  (hL : Md_books_b2 h x0 x1 x2 x3 = some (r, h')) : EvB ω N_Md_books 2 (QB none z h') z h 2 [some (aV ω x0), some (aV ω x1), some (iV x2), some (iV x3), none, none, none, none, none] [] := by
  unfold Md_books_b2 at hL
  refine itr_link (P := fun (s : Hp × Int × Int × Int × Int) (o : Int × Hp) => EvB ω N_Md_books 2 (QB none z o.2) z s.1 2 [some (aV ω s.2.1), some (aV ω s.2.2.1), some (iV s.2.2.2.1), some (iV s.2.2.2.2), none, none, none, none, none] []) ?_ _ _ _ hL
  intro k hk s o h9
  have h10 := KMd_books_b2_body (ω := ω) (z := z) (k2 := k) (h := s.1) (x0 := s.2.1) (x1 := s.2.2.1) (x2 := s.2.2.2.1) (x3 := s.2.2.2.2) (r := o.1) (h' := o.2) 
  exact h10 hk h9
set_option maxHeartbeats 1000000 in
set_option maxRecDepth 100000 in
theorem M_Md_books {ω : Wd} {z : Nat → Prop} {h h' : Hp} {a0 a1 a2 r : Int}  (hL : Md_books h a0 a1 a2 = some (r, h')) : CtB ω N_Md_books 2 [aV ω a0, aV ω a1, iV a2] z h none h' := by
  unfold Md_books at hL
  refine Ct_of (lv := [some (aV ω a0), some (aV ω a1), some (iV a2), none, none, none, none, none, none]) (by decide) (Nat.le_trans (sl_1 (cat_aV _ _) (sl_1 (cat_aV _ _) (sl_1 (cat_iV _) sl_z))) (Nat.le_of_ble_eq_true rfl)) (la_1 (cat_aV _ _) (la_1 (cat_aV _ _) (la_1 (cat_iV _) (la_n (la_n (la_n (la_n (la_n (la_n la_z))))))))) ?_
  refine ev_iconst (pc := 0) dX10_books_0 ?_
  refine ev_istore_n (pc := 1) (i := 3) dX10_books_1 rfl (lnl_v rfl rfl) (Nat.le_of_ble_eq_true rfl) ?_
  exact ev_le (lvle_s (lvle_s (lvle_s (lvle_s (lvle_n (lvle_n (lvle_n (lvle_n (lvle_n lvle_z))))))))) (KMd_books_b2  hL)
set_option maxHeartbeats 1000000 in
set_option maxRecDepth 100000 in
theorem KMd_breaks_b22_body {ω : Wd} {z : Nat → Prop}  {k22 : Hp × Int × Int × Int × Int → Option (Int × Hp)} {h h' : Hp} {x0 x1 x2 x3 r : Int}  (hk22 : ∀ s o, k22 s = some o → EvB ω N_Md_breaks 3 (QB none z o.2) z s.1 22 [some (aV ω s.2.1), some (aV ω s.2.2.1), some (iV s.2.2.2.1), some (iV s.2.2.2.2)] []) (hL : Md_breaks_b22_body  k22 h x0 x1 x2 x3 = some (r, h')) : EvB ω N_Md_breaks 3 (QB none z h') z h 22 [some (aV ω x0), some (aV ω x1), some (iV x2), some (iV x3)] [] := by
  unfold Md_breaks_b22_body at hL
  refine ev_iload_n (pc := 22) (i := 3) dX10_breaks_22 rfl rfl ?_
  refine ev_aload_n (pc := 23) (i := 0) dX10_breaks_23 rfl rfl ?_
  obtain ⟨hs6, hL⟩ := cC_un hL
  refine ev_get (pc := 24) (c9 := 10) (k9 := 26) dX10_breaks_24 fl_Md_294 (by decide) hs6 gv10_26 ?_
  refine ev_icmp_ge (pc := 27) (tgt := 48) dX10_breaks_27 rfl hL rfl (fun hL => ?_) (fun hL => ?_)
  · refine ev_iload_n (pc := 30) (i := 3) dX10_breaks_30 rfl rfl ?_
    refine ev_iload_n (pc := 31) (i := 2) dX10_breaks_31 rfl rfl ?_
    refine ev_icmp_eq (pc := 32) (tgt := 42) dX10_breaks_32 rfl hL rfl (fun hL => ?_) (fun hL => ?_)
    · refine ev_iinc (pc := 42) dX10_breaks_42 rfl (lnl_v rfl rfl) (Nat.le_of_ble_eq_true rfl) ?_
      refine ev_goto (pc := 45) (tgt := 22) dX10_breaks_45 rfl ?_
      exact ev_le (lvle_s (lvle_s (lvle_s (lvle_s lvle_z)))) (hk22 _ _ hL)
    · refine ev_aload_n (pc := 35) (i := 1) dX10_breaks_35 rfl rfl ?_
      refine ev_iload_n (pc := 36) (i := 2) dX10_breaks_36 rfl rfl ?_
      refine ev_iload_n (pc := 37) (i := 3) dX10_breaks_37 rfl rfl ?_
      refine ev_iconst (pc := 38) dX10_breaks_38 ?_
      obtain ⟨r7, h8, hc9, hL⟩ := cl_un hL
      refine evB_callS_V (pc := 39) (M_Md_adds hc9) dX10_breaks_39 mt_Md_adds st_Md_adds ml_Md_347 (Nat.le_of_ble_eq_true rfl) rfl rfl (Nat.le_trans sm_z (by decide)) ?_
      refine ev_iinc (pc := 42) dX10_breaks_42 rfl (lnl_v rfl rfl) (Nat.le_of_ble_eq_true rfl) ?_
      refine ev_goto (pc := 45) (tgt := 22) dX10_breaks_45 rfl ?_
      exact ev_le (lvle_s (lvle_s (lvle_s (lvle_s lvle_z)))) (hk22 _ _ hL)
  · refine ev_aload_n (pc := 48) (i := 1) dX10_breaks_48 rfl rfl ?_
    refine ev_bipush (pc := 49) dX10_breaks_49 (by decide) ?_
    refine ev_iconst (pc := 51) dX10_breaks_51 ?_
    refine ev_iload_n (pc := 52) (i := 2) dX10_breaks_52 rfl rfl ?_
    refine ev_imul (pc := 53) dX10_breaks_53 ?_
    refine ev_iadd (pc := 54) dX10_breaks_54 ?_
    refine ev_iconst (pc := 55) dX10_breaks_55 ?_
    refine ev_iadd (pc := 56) dX10_breaks_56 ?_
    refine ev_iconst (pc := 57) dX10_breaks_57 ?_
    obtain ⟨q10a, q10d, q10b, q10c, hL⟩ := cY_un hL
    refine ev_iast (pc := 58) dX10_breaks_58 q10a q10d q10b q10c ?_
    refine ev_puG hL (fun h11 hL => ?_)
    exact evB_vret (pc := 59) dX10_breaks_59 rfl hL
set_option maxHeartbeats 1000000 in
set_option maxRecDepth 100000 in
theorem KMd_breaks_b22 {ω : Wd} {z : Nat → Prop}  {h h' : Hp} {x0 x1 x2 x3 r : Int}  (hL : Md_breaks_b22 h x0 x1 x2 x3 = some (r, h')) : EvB ω N_Md_breaks 3 (QB none z h') z h 22 [some (aV ω x0), some (aV ω x1), some (iV x2), some (iV x3)] [] := by
  unfold Md_breaks_b22 at hL
  refine itr_link (P := fun (s : Hp × Int × Int × Int × Int) (o : Int × Hp) => EvB ω N_Md_breaks 3 (QB none z o.2) z s.1 22 [some (aV ω s.2.1), some (aV ω s.2.2.1), some (iV s.2.2.2.1), some (iV s.2.2.2.2)] []) ?_ _ _ _ hL
  intro k hk s o h9
  have h10 := KMd_breaks_b22_body (ω := ω) (z := z) (k22 := k) (h := s.1) (x0 := s.2.1) (x1 := s.2.2.1) (x2 := s.2.2.2.1) (x3 := s.2.2.2.2) (r := o.1) (h' := o.2) 
  exact h10 hk h9
set_option maxHeartbeats 1000000 in
set_option maxRecDepth 100000 in
theorem M_Md_breaks {ω : Wd} {z : Nat → Prop} {h h' : Hp} {a0 a1 a2 r : Int}  (hL : Md_breaks h a0 a1 a2 = some (r, h')) : CtB ω N_Md_breaks 3 [aV ω a0, aV ω a1, iV a2] z h none h' := by
  unfold Md_breaks at hL
  refine Ct_of (lv := [some (aV ω a0), some (aV ω a1), some (iV a2), none]) (by decide) (Nat.le_trans (sl_1 (cat_aV _ _) (sl_1 (cat_aV _ _) (sl_1 (cat_iV _) sl_z))) (Nat.le_of_ble_eq_true rfl)) (la_1 (cat_aV _ _) (la_1 (cat_aV _ _) (la_1 (cat_iV _) (la_n la_z)))) ?_
  refine ev_aload_n (pc := 0) (i := 0) dX10_breaks_0 rfl rfl ?_
  refine ev_dup (pc := 1) dX10_breaks_1 (cat_aV _ _) ?_
  obtain ⟨hs1, hL⟩ := cC_un hL
  refine ev_get (pc := 2) (c9 := 10) (k9 := 40) dX10_breaks_2 fl_Md_344 (by decide) hs1 gv10_40 ?_
  refine ev_iconst (pc := 5) dX10_breaks_5 ?_
  refine ev_iload_n (pc := 6) (i := 2) dX10_breaks_6 rfl rfl ?_
  refine ev_ishl (pc := 7) dX10_breaks_7 ?_
  refine ev_ior (pc := 8) dX10_breaks_8 ?_
  refine evB_putI (pc := 9) (c9 := 10) (k9 := 40) (kI := 40) dX10_breaks_9 fl_Md_344 hs1 (by decide) (fun q hq => by cases hq; rfl) rfl rfl rfl ?_
  refine ev_puG hL (fun h2 hL => ?_)
  refine ev_aload_n (pc := 12) (i := 1) dX10_breaks_12 rfl rfl ?_
  refine ev_bipush (pc := 13) dX10_breaks_13 (by decide) ?_
  refine ev_dup2 (pc := 15) dX10_breaks_15 rfl (cat_aV _ _) ?_
  obtain ⟨q3a, q3b, q3c, hL⟩ := cX_un hL
  refine ev_iald (pc := 16) dX10_breaks_16 q3a q3b q3c ?_
  refine ev_iconst (pc := 17) dX10_breaks_17 ?_
  refine ev_iadd (pc := 18) dX10_breaks_18 ?_
  obtain ⟨q4a, q4d, q4b, q4c, hL⟩ := cY_un hL
  refine ev_iast (pc := 19) dX10_breaks_19 q4a q4d q4b q4c ?_
  refine ev_puG hL (fun h5 hL => ?_)
  refine ev_iconst (pc := 20) dX10_breaks_20 ?_
  refine ev_istore_n (pc := 21) (i := 3) dX10_breaks_21 rfl (lnl_v rfl rfl) (Nat.le_of_ble_eq_true rfl) ?_
  exact ev_le (lvle_s (lvle_s (lvle_s (lvle_s lvle_z)))) (KMd_breaks_b22  hL)
set_option maxHeartbeats 1000000 in
set_option maxRecDepth 100000 in
theorem KMd_goEvening_b226 {ω : Wd} {z : Nat → Prop}  {h h' : Hp} {x0 x1 r : Int}  (hL : Md_goEvening_b226 h x0 x1 = some (r, h')) : EvB ω N_Md_goEvening 4 (QB (some (iV r)) z h') z h 226 [some (aV ω x0), some (aV ω x1), none, none] [] := by
  unfold Md_goEvening_b226 at hL
  refine ev_bipush (pc := 226) dX10_goEvening_226 (by decide) ?_
  refine ev_iconst (pc := 228) dX10_goEvening_228 ?_
  refine ev_aload_n (pc := 229) (i := 1) dX10_goEvening_229 rfl rfl ?_
  refine ev_bipush (pc := 230) dX10_goEvening_230 (by decide) ?_
  obtain ⟨q42a, q42b, q42c, hL⟩ := cX_un hL
  refine ev_iald (pc := 232) dX10_goEvening_232 q42a q42b q42c ?_
  refine ev_imul (pc := 233) dX10_goEvening_233 ?_
  refine ev_iadd (pc := 234) dX10_goEvening_234 ?_
  refine ev_bdI hL (fun v43 hL => ?_)
  refine ev_istore_n (pc := 235) (i := 3) dX10_goEvening_235 rfl (lnl_n rfl) (Nat.le_of_ble_eq_true rfl) ?_
  refine ev_aload_n (pc := 236) (i := 1) dX10_goEvening_236 rfl rfl ?_
  refine ev_iload_n (pc := 237) (i := 3) dX10_goEvening_237 rfl rfl ?_
  refine ev_aload_n (pc := 238) (i := 0) dX10_goEvening_238 rfl rfl ?_
  obtain ⟨hs44, hL⟩ := cC_un hL
  refine ev_get (pc := 239) (c9 := 10) (k9 := 39) dX10_goEvening_239 fl_Md_354 (by decide) hs44 gv10_39 ?_
  obtain ⟨q45a, q45d, q45b, q45c, hL⟩ := cY_un hL
  refine ev_iast (pc := 242) dX10_goEvening_242 q45a q45d q45b q45c ?_
  refine ev_puG hL (fun h46 hL => ?_)
  refine ev_aload_n (pc := 243) (i := 1) dX10_goEvening_243 rfl rfl ?_
  refine ev_iload_n (pc := 244) (i := 3) dX10_goEvening_244 rfl rfl ?_
  refine ev_iconst (pc := 245) dX10_goEvening_245 ?_
  refine ev_iadd (pc := 246) dX10_goEvening_246 ?_
  refine ev_aload_n (pc := 247) (i := 0) dX10_goEvening_247 rfl rfl ?_
  refine ev_get (pc := 248) (c9 := 10) (k9 := 40) dX10_goEvening_248 fl_Md_344 (by decide) hs44 gv10_40 ?_
  obtain ⟨q47a, q47d, q47b, q47c, hL⟩ := cY_un hL
  refine ev_iast (pc := 251) dX10_goEvening_251 q47a q47d q47b q47c ?_
  refine ev_puG hL (fun h48 hL => ?_)
  refine ev_aload_n (pc := 252) (i := 1) dX10_goEvening_252 rfl rfl ?_
  refine ev_iload_n (pc := 253) (i := 3) dX10_goEvening_253 rfl rfl ?_
  refine ev_iconst (pc := 254) dX10_goEvening_254 ?_
  refine ev_iadd (pc := 255) dX10_goEvening_255 ?_
  refine ev_aload_n (pc := 256) (i := 0) dX10_goEvening_256 rfl rfl ?_
  refine ev_aload_n (pc := 257) (i := 1) dX10_goEvening_257 rfl rfl ?_
  obtain ⟨r49, h50, hc51, hL⟩ := cl_un hL
  refine evB_callV_I (pc := 258) (M_Md_allOwed hc51) dX10_goEvening_258 mt_Md_allOwed st_Md_allOwed ml_Md_360 hs44 (by decide) ⟨_, rfl, rfl⟩ (Nat.le_of_ble_eq_true rfl) rfl rfl (Nat.le_trans (sm_1 (cat_iV _) (sm_1 (cat_aV _ _) sm_z)) (by decide)) ?_
  obtain ⟨q52a, q52d, q52b, q52c, hL⟩ := cY_un hL
  refine ev_iast (pc := 261) dX10_goEvening_261 q52a q52d q52b q52c ?_
  refine ev_puG hL (fun h53 hL => ?_)
  refine ev_aload_n (pc := 262) (i := 1) dX10_goEvening_262 rfl rfl ?_
  refine ev_bipush (pc := 263) dX10_goEvening_263 (by decide) ?_
  refine ev_dup2 (pc := 265) dX10_goEvening_265 rfl (cat_aV _ _) ?_
  obtain ⟨q54a, q54b, q54c, hL⟩ := cX_un hL
  refine ev_iald (pc := 266) dX10_goEvening_266 q54a q54b q54c ?_
  refine ev_iconst (pc := 267) dX10_goEvening_267 ?_
  refine ev_iadd (pc := 268) dX10_goEvening_268 ?_
  obtain ⟨q55a, q55d, q55b, q55c, hL⟩ := cY_un hL
  refine ev_iast (pc := 269) dX10_goEvening_269 q55a q55d q55b q55c ?_
  refine ev_puG hL (fun h56 hL => ?_)
  refine ev_aload_n (pc := 270) (i := 0) dX10_goEvening_270 rfl rfl ?_
  refine ev_get (pc := 271) (c9 := 10) (k9 := 39) dX10_goEvening_271 fl_Md_354 (by decide) hs44 gv10_39 ?_
  exact evB_iret (pc := 274) dX10_goEvening_274 rfl hL
set_option maxHeartbeats 1000000 in
set_option maxRecDepth 100000 in
theorem KMd_goEvening_b191_body {ω : Wd} {z : Nat → Prop}  {k191 : Hp × Int × Int × Int → Option (Int × Hp)} {h h' : Hp} {x0 x1 x3 r : Int}  (hk191 : ∀ s o, k191 s = some o → EvB ω N_Md_goEvening 4 (QB (some (iV o.1)) z o.2) z s.1 191 [some (aV ω s.2.1), some (aV ω s.2.2.1), none, some (iV s.2.2.2)] []) (hL : Md_goEvening_b191_body  k191 h x0 x1 x3 = some (r, h')) : EvB ω N_Md_goEvening 4 (QB (some (iV r)) z h') z h 191 [some (aV ω x0), some (aV ω x1), none, some (iV x3)] [] := by
  unfold Md_goEvening_b191_body at hL
  refine ev_iload_n (pc := 191) (i := 3) dX10_goEvening_191 rfl rfl ?_
  refine ev_sipush (pc := 192) dX10_goEvening_192 (by decide) ?_
  refine ev_icmp_gt (pc := 195) (tgt := 218) dX10_goEvening_195 rfl hL rfl (fun hL => ?_) (fun hL => ?_)
  · refine ev_aload_n (pc := 218) (i := 1) dX10_goEvening_218 rfl rfl ?_
    refine ev_bipush (pc := 219) dX10_goEvening_219 (by decide) ?_
    refine ev_dup2 (pc := 221) dX10_goEvening_221 rfl (cat_aV _ _) ?_
    obtain ⟨q39a, q39b, q39c, hL⟩ := cX_un hL
    refine ev_iald (pc := 222) dX10_goEvening_222 q39a q39b q39c ?_
    refine ev_iconst (pc := 223) dX10_goEvening_223 ?_
    refine ev_isub (pc := 224) dX10_goEvening_224 ?_
    obtain ⟨q40a, q40d, q40b, q40c, hL⟩ := cY_un hL
    refine ev_iast (pc := 225) dX10_goEvening_225 q40a q40d q40b q40c ?_
    refine ev_puG hL (fun h41 hL => ?_)
    exact ev_le (lvle_s (lvle_s (lvle_n (lvle_n lvle_z)))) (KMd_goEvening_b226  hL)
  · refine ev_aload_n (pc := 198) (i := 1) dX10_goEvening_198 rfl rfl ?_
    refine ev_bipush (pc := 199) dX10_goEvening_199 (by decide) ?_
    refine ev_iload_n (pc := 201) (i := 3) dX10_goEvening_201 rfl rfl ?_
    refine ev_iadd (pc := 202) dX10_goEvening_202 ?_
    refine ev_aload_n (pc := 203) (i := 1) dX10_goEvening_203 rfl rfl ?_
    refine ev_bipush (pc := 204) dX10_goEvening_204 (by decide) ?_
    refine ev_iload_n (pc := 206) (i := 3) dX10_goEvening_206 rfl rfl ?_
    refine ev_iadd (pc := 207) dX10_goEvening_207 ?_
    refine ev_iconst (pc := 208) dX10_goEvening_208 ?_
    refine ev_iadd (pc := 209) dX10_goEvening_209 ?_
    obtain ⟨q57a, q57b, q57c, hL⟩ := cX_un hL
    refine ev_iald (pc := 210) dX10_goEvening_210 q57a q57b q57c ?_
    obtain ⟨q58a, q58d, q58b, q58c, hL⟩ := cY_un hL
    refine ev_iast (pc := 211) dX10_goEvening_211 q58a q58d q58b q58c ?_
    refine ev_puG hL (fun h59 hL => ?_)
    refine ev_iinc (pc := 212) dX10_goEvening_212 rfl (lnl_n rfl) (Nat.le_of_ble_eq_true rfl) ?_
    refine ev_goto (pc := 215) (tgt := 191) dX10_goEvening_215 rfl ?_
    exact ev_le (lvle_s (lvle_s (lvle_n (lvle_s lvle_z)))) (hk191 _ _ hL)
set_option maxHeartbeats 1000000 in
set_option maxRecDepth 100000 in
theorem KMd_goEvening_b191 {ω : Wd} {z : Nat → Prop}  {h h' : Hp} {x0 x1 x3 r : Int}  (hL : Md_goEvening_b191 h x0 x1 x3 = some (r, h')) : EvB ω N_Md_goEvening 4 (QB (some (iV r)) z h') z h 191 [some (aV ω x0), some (aV ω x1), none, some (iV x3)] [] := by
  unfold Md_goEvening_b191 at hL
  refine itr_link (P := fun (s : Hp × Int × Int × Int) (o : Int × Hp) => EvB ω N_Md_goEvening 4 (QB (some (iV o.1)) z o.2) z s.1 191 [some (aV ω s.2.1), some (aV ω s.2.2.1), none, some (iV s.2.2.2)] []) ?_ _ _ _ hL
  intro k hk s o h9
  have h10 := KMd_goEvening_b191_body (ω := ω) (z := z) (k191 := k) (h := s.1) (x0 := s.2.1) (x1 := s.2.2.1) (x3 := s.2.2.2) (r := o.1) (h' := o.2) 
  exact h10 hk h9
set_option maxHeartbeats 1000000 in
set_option maxRecDepth 100000 in
theorem KMd_goEvening_b112_body {ω : Wd} {z : Nat → Prop}  {k112 : Hp × Int × Int × Int → Option (Int × Hp)} {h h' : Hp} {x0 x1 x3 r : Int}  (hk112 : ∀ s o, k112 s = some o → EvB ω N_Md_goEvening 4 (QB (some (iV o.1)) z o.2) z s.1 112 [some (aV ω s.2.1), some (aV ω s.2.2.1), none, some (iV s.2.2.2)] []) (hL : Md_goEvening_b112_body  k112 h x0 x1 x3 = some (r, h')) : EvB ω N_Md_goEvening 4 (QB (some (iV r)) z h') z h 112 [some (aV ω x0), some (aV ω x1), none, some (iV x3)] [] := by
  unfold Md_goEvening_b112_body at hL
  refine ev_iload_n (pc := 112) (i := 3) dX10_goEvening_112 rfl rfl ?_
  refine ev_aload_n (pc := 113) (i := 0) dX10_goEvening_113 rfl rfl ?_
  obtain ⟨hs24, hL⟩ := cC_un hL
  refine ev_get (pc := 114) (c9 := 10) (k9 := 26) dX10_goEvening_114 fl_Md_294 (by decide) hs24 gv10_26 ?_
  refine ev_icmp_ge (pc := 117) (tgt := 172) dX10_goEvening_117 rfl hL rfl (fun hL => ?_) (fun hL => ?_)
  · refine ev_aload_n (pc := 120) (i := 0) dX10_goEvening_120 rfl rfl ?_
    refine ev_get (pc := 121) (c9 := 10) (k9 := 38) dX10_goEvening_121 fl_Md_81 (by decide) hs24 (gv10_38 hs24) ?_
    refine ev_iload_n (pc := 124) (i := 3) dX10_goEvening_124 rfl rfl ?_
    obtain ⟨q25a, q25b, q25c, hL⟩ := cX_un hL
    refine ev_iald (pc := 125) dX10_goEvening_125 q25a q25b q25c ?_
    refine ev_iconst (pc := 126) dX10_goEvening_126 ?_
    refine ev_icmp_eq (pc := 127) (tgt := 133) dX10_goEvening_127 rfl hL rfl (fun hL => ?_) (fun hL => ?_)
    · refine ev_aload_n (pc := 133) (i := 1) dX10_goEvening_133 rfl rfl ?_
      refine ev_iload_n (pc := 134) (i := 3) dX10_goEvening_134 rfl rfl ?_
      obtain ⟨r26, h27, hc28, hL⟩ := cl_un hL
      refine evB_callS_I (pc := 135) (M_Md_lonely hc28) dX10_goEvening_135 mt_Md_lonely st_Md_lonely ml_Md_334 (Nat.le_of_ble_eq_true rfl) rfl rfl (Nat.le_trans sm_z (by decide)) ?_
      refine ev_bipush (pc := 138) dX10_goEvening_138 (by decide) ?_
      refine ev_icmp_ne (pc := 140) (tgt := 152) dX10_goEvening_140 rfl hL rfl (fun hL => ?_) (fun hL => ?_)
      · refine ev_aload_n (pc := 143) (i := 0) dX10_goEvening_143 rfl rfl ?_
        refine ev_aload_n (pc := 144) (i := 1) dX10_goEvening_144 rfl rfl ?_
        refine ev_iload_n (pc := 145) (i := 3) dX10_goEvening_145 rfl rfl ?_
        obtain ⟨r29, h30, hc31, hL⟩ := cl_un hL
        refine evB_callV_V (pc := 146) (M_Md_breaks hc31) dX10_goEvening_146 mt_Md_breaks st_Md_breaks ml_Md_357 hs24 (by decide) ⟨_, rfl, rfl⟩ (Nat.le_of_ble_eq_true rfl) rfl rfl (Nat.le_trans sm_z (by decide)) ?_
        refine ev_goto (pc := 149) (tgt := 166) dX10_goEvening_149 rfl ?_
        refine ev_iinc (pc := 166) dX10_goEvening_166 rfl (lnl_n rfl) (Nat.le_of_ble_eq_true rfl) ?_
        refine ev_goto (pc := 169) (tgt := 112) dX10_goEvening_169 rfl ?_
        exact ev_le (lvle_s (lvle_s (lvle_n (lvle_s lvle_z)))) (hk112 _ _ hL)
      · refine ev_aload_n (pc := 152) (i := 1) dX10_goEvening_152 rfl rfl ?_
        refine ev_bipush (pc := 153) dX10_goEvening_153 (by decide) ?_
        refine ev_iconst (pc := 155) dX10_goEvening_155 ?_
        refine ev_iload_n (pc := 156) (i := 3) dX10_goEvening_156 rfl rfl ?_
        refine ev_imul (pc := 157) dX10_goEvening_157 ?_
        refine ev_iadd (pc := 158) dX10_goEvening_158 ?_
        refine ev_iconst (pc := 159) dX10_goEvening_159 ?_
        refine ev_iadd (pc := 160) dX10_goEvening_160 ?_
        refine ev_dup2 (pc := 161) dX10_goEvening_161 rfl (cat_aV _ _) ?_
        obtain ⟨q32a, q32b, q32c, hL⟩ := cX_un hL
        refine ev_iald (pc := 162) dX10_goEvening_162 q32a q32b q32c ?_
        refine ev_iconst (pc := 163) dX10_goEvening_163 ?_
        refine ev_iadd (pc := 164) dX10_goEvening_164 ?_
        obtain ⟨q33a, q33d, q33b, q33c, hL⟩ := cY_un hL
        refine ev_iast (pc := 165) dX10_goEvening_165 q33a q33d q33b q33c ?_
        refine ev_puG hL (fun h34 hL => ?_)
        refine ev_iinc (pc := 166) dX10_goEvening_166 rfl (lnl_n rfl) (Nat.le_of_ble_eq_true rfl) ?_
        refine ev_goto (pc := 169) (tgt := 112) dX10_goEvening_169 rfl ?_
        exact ev_le (lvle_s (lvle_s (lvle_n (lvle_s lvle_z)))) (hk112 _ _ hL)
    · refine ev_goto (pc := 130) (tgt := 166) dX10_goEvening_130 rfl ?_
      refine ev_iinc (pc := 166) dX10_goEvening_166 rfl (lnl_n rfl) (Nat.le_of_ble_eq_true rfl) ?_
      refine ev_goto (pc := 169) (tgt := 112) dX10_goEvening_169 rfl ?_
      exact ev_le (lvle_s (lvle_s (lvle_n (lvle_s lvle_z)))) (hk112 _ _ hL)
  · refine ev_aload_n (pc := 172) (i := 1) dX10_goEvening_172 rfl rfl ?_
    refine ev_bipush (pc := 173) dX10_goEvening_173 (by decide) ?_
    refine ev_dup2 (pc := 175) dX10_goEvening_175 rfl (cat_aV _ _) ?_
    obtain ⟨q35a, q35b, q35c, hL⟩ := cX_un hL
    refine ev_iald (pc := 176) dX10_goEvening_176 q35a q35b q35c ?_
    refine ev_iconst (pc := 177) dX10_goEvening_177 ?_
    refine ev_iadd (pc := 178) dX10_goEvening_178 ?_
    obtain ⟨q36a, q36d, q36b, q36c, hL⟩ := cY_un hL
    refine ev_iast (pc := 179) dX10_goEvening_179 q36a q36d q36b q36c ?_
    refine ev_puG hL (fun h37 hL => ?_)
    refine ev_aload_n (pc := 180) (i := 1) dX10_goEvening_180 rfl rfl ?_
    refine ev_bipush (pc := 181) dX10_goEvening_181 (by decide) ?_
    obtain ⟨q38a, q38b, q38c, hL⟩ := cX_un hL
    refine ev_iald (pc := 183) dX10_goEvening_183 q38a q38b q38c ?_
    refine ev_bipush (pc := 184) dX10_goEvening_184 (by decide) ?_
    refine ev_icmp_ne (pc := 186) (tgt := 226) dX10_goEvening_186 rfl hL rfl (fun hL => ?_) (fun hL => ?_)
    · refine ev_iconst (pc := 189) dX10_goEvening_189 ?_
      refine ev_istore_n (pc := 190) (i := 3) dX10_goEvening_190 rfl (lnl_n rfl) (Nat.le_of_ble_eq_true rfl) ?_
      exact ev_le (lvle_s (lvle_s (lvle_n (lvle_s lvle_z)))) (KMd_goEvening_b191  hL)
    · exact ev_le (lvle_s (lvle_s (lvle_n (lvle_n lvle_z)))) (KMd_goEvening_b226  hL)
set_option maxHeartbeats 1000000 in
set_option maxRecDepth 100000 in
theorem KMd_goEvening_b112 {ω : Wd} {z : Nat → Prop}  {h h' : Hp} {x0 x1 x3 r : Int}  (hL : Md_goEvening_b112 h x0 x1 x3 = some (r, h')) : EvB ω N_Md_goEvening 4 (QB (some (iV r)) z h') z h 112 [some (aV ω x0), some (aV ω x1), none, some (iV x3)] [] := by
  unfold Md_goEvening_b112 at hL
  refine itr_link (P := fun (s : Hp × Int × Int × Int) (o : Int × Hp) => EvB ω N_Md_goEvening 4 (QB (some (iV o.1)) z o.2) z s.1 112 [some (aV ω s.2.1), some (aV ω s.2.2.1), none, some (iV s.2.2.2)] []) ?_ _ _ _ hL
  intro k hk s o h9
  have h10 := KMd_goEvening_b112_body (ω := ω) (z := z) (k112 := k) (h := s.1) (x0 := s.2.1) (x1 := s.2.2.1) (x3 := s.2.2.2) (r := o.1) (h' := o.2) 
  exact h10 hk h9
set_option maxHeartbeats 1000000 in
set_option maxRecDepth 100000 in
theorem KMd_goEvening_b18_body {ω : Wd} {z : Nat → Prop}  {k18 : Hp × Int × Int × Int → Option (Int × Hp)} {h h' : Hp} {x0 x1 x3 r : Int}  (hk18 : ∀ s o, k18 s = some o → EvB ω N_Md_goEvening 4 (QB (some (iV o.1)) z o.2) z s.1 18 [some (aV ω s.2.1), some (aV ω s.2.2.1), none, some (iV s.2.2.2)] []) (hL : Md_goEvening_b18_body  k18 h x0 x1 x3 = some (r, h')) : EvB ω N_Md_goEvening 4 (QB (some (iV r)) z h') z h 18 [some (aV ω x0), some (aV ω x1), none, some (iV x3)] [] := by
  unfold Md_goEvening_b18_body at hL
  refine ev_iload_n (pc := 18) (i := 3) dX10_goEvening_18 rfl rfl ?_
  refine ev_aload_n (pc := 19) (i := 0) dX10_goEvening_19 rfl rfl ?_
  obtain ⟨hs7, hL⟩ := cC_un hL
  refine ev_get (pc := 20) (c9 := 10) (k9 := 26) dX10_goEvening_20 fl_Md_294 (by decide) hs7 gv10_26 ?_
  refine ev_icmp_ge (pc := 23) (tgt := 110) dX10_goEvening_23 rfl hL rfl (fun hL => ?_) (fun hL => ?_)
  · refine ev_aload_n (pc := 26) (i := 0) dX10_goEvening_26 rfl rfl ?_
    refine ev_get (pc := 27) (c9 := 10) (k9 := 38) dX10_goEvening_27 fl_Md_81 (by decide) hs7 (gv10_38 hs7) ?_
    refine ev_iload_n (pc := 30) (i := 3) dX10_goEvening_30 rfl rfl ?_
    obtain ⟨q8a, q8b, q8c, hL⟩ := cX_un hL
    refine ev_iald (pc := 31) dX10_goEvening_31 q8a q8b q8c ?_
    refine ev_iconst (pc := 32) dX10_goEvening_32 ?_
    refine ev_icmp_ne (pc := 33) (tgt := 39) dX10_goEvening_33 rfl hL rfl (fun hL => ?_) (fun hL => ?_)
    · refine ev_goto (pc := 36) (tgt := 104) dX10_goEvening_36 rfl ?_
      refine ev_iinc (pc := 104) dX10_goEvening_104 rfl (lnl_n rfl) (Nat.le_of_ble_eq_true rfl) ?_
      refine ev_goto (pc := 107) (tgt := 18) dX10_goEvening_107 rfl ?_
      exact ev_le (lvle_s (lvle_s (lvle_n (lvle_s lvle_z)))) (hk18 _ _ hL)
    · refine ev_aload_n (pc := 39) (i := 0) dX10_goEvening_39 rfl rfl ?_
      refine ev_dup (pc := 40) dX10_goEvening_40 (cat_aV _ _) ?_
      refine ev_get (pc := 41) (c9 := 10) (k9 := 39) dX10_goEvening_41 fl_Md_354 (by decide) hs7 gv10_39 ?_
      refine ev_iconst (pc := 44) dX10_goEvening_44 ?_
      refine ev_iadd (pc := 45) dX10_goEvening_45 ?_
      refine evB_putI (pc := 46) (c9 := 10) (k9 := 39) (kI := 39) dX10_goEvening_46 fl_Md_354 hs7 (by decide) (fun q hq => by cases hq; rfl) rfl rfl rfl ?_
      refine ev_puG hL (fun h9 hL => ?_)
      refine ev_aload_n (pc := 49) (i := 1) dX10_goEvening_49 rfl rfl ?_
      refine ev_bipush (pc := 50) dX10_goEvening_50 (by decide) ?_
      refine ev_iconst (pc := 52) dX10_goEvening_52 ?_
      refine ev_iload_n (pc := 53) (i := 3) dX10_goEvening_53 rfl rfl ?_
      refine ev_imul (pc := 54) dX10_goEvening_54 ?_
      refine ev_iadd (pc := 55) dX10_goEvening_55 ?_
      refine ev_iconst (pc := 56) dX10_goEvening_56 ?_
      refine ev_iadd (pc := 57) dX10_goEvening_57 ?_
      refine ev_iconst (pc := 58) dX10_goEvening_58 ?_
      refine ev_aload_n (pc := 59) (i := 1) dX10_goEvening_59 rfl rfl ?_
      refine ev_iload_n (pc := 60) (i := 3) dX10_goEvening_60 rfl rfl ?_
      obtain ⟨r10, h11, hc12, hL⟩ := cl_un hL
      refine evB_callS_I (pc := 61) (M_Md_lonely hc12) dX10_goEvening_61 mt_Md_lonely st_Md_lonely ml_Md_334 (Nat.le_of_ble_eq_true rfl) rfl rfl (Nat.le_trans (sm_1 (cat_iV _) (sm_1 (cat_iV _) (sm_1 (cat_aV _ _) sm_z))) (by decide)) ?_
      refine ev_iconst (pc := 64) dX10_goEvening_64 ?_
      refine ev_isub (pc := 65) dX10_goEvening_65 ?_
      refine ev_max (pc := 66) dX10_goEvening_66 wm_Md_332 w_s_max w_i_Math w_k_max (Nat.le_trans (sm_1 (cat_iV _) (sm_1 (cat_aV _ _) sm_z)) (by decide)) (Nat.le_of_ble_eq_true rfl) (Nat.le_refl _) (Nat.le_refl _) ?_
      obtain ⟨q13a, q13d, q13b, q13c, hL⟩ := cY_un hL
      refine ev_iast (pc := 69) dX10_goEvening_69 q13a q13d q13b q13c ?_
      refine ev_puG hL (fun h14 hL => ?_)
      refine ev_aload_n (pc := 70) (i := 0) dX10_goEvening_70 rfl rfl ?_
      refine ev_get (pc := 71) (c9 := 10) (k9 := 38) dX10_goEvening_71 fl_Md_81 (by decide) hs7 (gv10_38 hs7) ?_
      refine ev_iload_n (pc := 74) (i := 3) dX10_goEvening_74 rfl rfl ?_
      obtain ⟨q15a, q15b, q15c, hL⟩ := cX_un hL
      refine ev_iald (pc := 75) dX10_goEvening_75 q15a q15b q15c ?_
      refine ev_iload_n (pc := 76) (i := 3) dX10_goEvening_76 rfl rfl ?_
      refine ev_icmp_le (pc := 77) (tgt := 104) dX10_goEvening_77 rfl hL rfl (fun hL => ?_) (fun hL => ?_)
      · refine ev_aload_n (pc := 80) (i := 1) dX10_goEvening_80 rfl rfl ?_
        refine ev_iload_n (pc := 81) (i := 3) dX10_goEvening_81 rfl rfl ?_
        refine ev_aload_n (pc := 82) (i := 0) dX10_goEvening_82 rfl rfl ?_
        refine ev_get (pc := 83) (c9 := 10) (k9 := 38) dX10_goEvening_83 fl_Md_81 (by decide) hs7 (gv10_38 hs7) ?_
        refine ev_iload_n (pc := 86) (i := 3) dX10_goEvening_86 rfl rfl ?_
        obtain ⟨q16a, q16b, q16c, hL⟩ := cX_un hL
        refine ev_iald (pc := 87) dX10_goEvening_87 q16a q16b q16c ?_
        refine ev_aload_n (pc := 88) (i := 1) dX10_goEvening_88 rfl rfl ?_
        refine ev_iload_n (pc := 89) (i := 3) dX10_goEvening_89 rfl rfl ?_
        refine ev_aload_n (pc := 90) (i := 0) dX10_goEvening_90 rfl rfl ?_
        refine ev_get (pc := 91) (c9 := 10) (k9 := 38) dX10_goEvening_91 fl_Md_81 (by decide) hs7 (gv10_38 hs7) ?_
        refine ev_iload_n (pc := 94) (i := 3) dX10_goEvening_94 rfl rfl ?_
        obtain ⟨q17a, q17b, q17c, hL⟩ := cX_un hL
        refine ev_iald (pc := 95) dX10_goEvening_95 q17a q17b q17c ?_
        obtain ⟨r18, h19, hc20, hL⟩ := cl_un hL
        refine evB_callS_I (pc := 96) (M_Md_owes hc20) dX10_goEvening_96 mt_Md_owes st_Md_owes ml_Md_312 (Nat.le_of_ble_eq_true rfl) rfl rfl (Nat.le_trans (sm_1 (cat_iV _) (sm_1 (cat_iV _) (sm_1 (cat_aV _ _) sm_z))) (by decide)) ?_
        refine ev_iconst (pc := 99) dX10_goEvening_99 ?_
        refine ev_isub (pc := 100) dX10_goEvening_100 ?_
        obtain ⟨r21, h22, hc23, hL⟩ := cl_un hL
        refine evB_callS_V (pc := 101) (M_Md_lays hc23) dX10_goEvening_101 mt_Md_lays st_Md_lays ml_Md_318 (Nat.le_of_ble_eq_true rfl) rfl rfl (Nat.le_trans sm_z (by decide)) ?_
        refine ev_iinc (pc := 104) dX10_goEvening_104 rfl (lnl_n rfl) (Nat.le_of_ble_eq_true rfl) ?_
        refine ev_goto (pc := 107) (tgt := 18) dX10_goEvening_107 rfl ?_
        exact ev_le (lvle_s (lvle_s (lvle_n (lvle_s lvle_z)))) (hk18 _ _ hL)
      · refine ev_iinc (pc := 104) dX10_goEvening_104 rfl (lnl_n rfl) (Nat.le_of_ble_eq_true rfl) ?_
        refine ev_goto (pc := 107) (tgt := 18) dX10_goEvening_107 rfl ?_
        exact ev_le (lvle_s (lvle_s (lvle_n (lvle_s lvle_z)))) (hk18 _ _ hL)
  · refine ev_iconst (pc := 110) dX10_goEvening_110 ?_
    refine ev_istore_n (pc := 111) (i := 3) dX10_goEvening_111 rfl (lnl_n rfl) (Nat.le_of_ble_eq_true rfl) ?_
    exact ev_le (lvle_s (lvle_s (lvle_n (lvle_s lvle_z)))) (KMd_goEvening_b112  hL)
set_option maxHeartbeats 1000000 in
set_option maxRecDepth 100000 in
theorem KMd_goEvening_b18 {ω : Wd} {z : Nat → Prop}  {h h' : Hp} {x0 x1 x3 r : Int}  (hL : Md_goEvening_b18 h x0 x1 x3 = some (r, h')) : EvB ω N_Md_goEvening 4 (QB (some (iV r)) z h') z h 18 [some (aV ω x0), some (aV ω x1), none, some (iV x3)] [] := by
  unfold Md_goEvening_b18 at hL
  refine itr_link (P := fun (s : Hp × Int × Int × Int) (o : Int × Hp) => EvB ω N_Md_goEvening 4 (QB (some (iV o.1)) z o.2) z s.1 18 [some (aV ω s.2.1), some (aV ω s.2.2.1), none, some (iV s.2.2.2)] []) ?_ _ _ _ hL
  intro k hk s o h9
  have h10 := KMd_goEvening_b18_body (ω := ω) (z := z) (k18 := k) (h := s.1) (x0 := s.2.1) (x1 := s.2.2.1) (x3 := s.2.2.2) (r := o.1) (h' := o.2) 
  exact h10 hk h9
set_option maxHeartbeats 1000000 in
set_option maxRecDepth 100000 in
theorem M_Md_goEvening {ω : Wd} {z : Nat → Prop} {h h' : Hp} {a0 a1 a2 r : Int}  (hL : Md_goEvening h a0 a1 a2 = some (r, h')) : CtB ω N_Md_goEvening 4 [aV ω a0, aV ω a1, iV a2] z h (some (iV r)) h' := by
  unfold Md_goEvening at hL
  refine Ct_of (lv := [some (aV ω a0), some (aV ω a1), some (iV a2), none]) (by decide) (Nat.le_trans (sl_1 (cat_aV _ _) (sl_1 (cat_aV _ _) (sl_1 (cat_iV _) sl_z))) (Nat.le_of_ble_eq_true rfl)) (la_1 (cat_aV _ _) (la_1 (cat_aV _ _) (la_1 (cat_iV _) (la_n la_z)))) ?_
  refine ev_aload_n (pc := 0) (i := 0) dX10_goEvening_0 rfl rfl ?_
  refine ev_aload_n (pc := 1) (i := 1) dX10_goEvening_1 rfl rfl ?_
  refine ev_iload_n (pc := 2) (i := 2) dX10_goEvening_2 rfl rfl ?_
  obtain ⟨hs1, hL⟩ := cC_un hL
  obtain ⟨r2, h3, hc4, hL⟩ := cl_un hL
  refine evB_callV_V (pc := 3) (M_Md_books hc4) dX10_goEvening_3 mt_Md_books st_Md_books ml_Md_350 hs1 (by decide) ⟨_, rfl, rfl⟩ (Nat.le_of_ble_eq_true rfl) rfl rfl (Nat.le_trans sm_z (by decide)) ?_
  refine ev_aload_n (pc := 6) (i := 0) dX10_goEvening_6 rfl rfl ?_
  refine ev_iconst (pc := 7) dX10_goEvening_7 ?_
  refine evB_putI (pc := 8) (c9 := 10) (k9 := 39) (kI := 39) dX10_goEvening_8 fl_Md_354 hs1 (by decide) (fun q hq => by cases hq; rfl) rfl rfl rfl ?_
  refine ev_puG hL (fun h5 hL => ?_)
  refine ev_aload_n (pc := 11) (i := 0) dX10_goEvening_11 rfl rfl ?_
  refine ev_iconst (pc := 12) dX10_goEvening_12 ?_
  refine evB_putI (pc := 13) (c9 := 10) (k9 := 40) (kI := 40) dX10_goEvening_13 fl_Md_344 hs1 (by decide) (fun q hq => by cases hq; rfl) rfl rfl rfl ?_
  refine ev_puG hL (fun h6 hL => ?_)
  refine ev_iconst (pc := 16) dX10_goEvening_16 ?_
  refine ev_istore_n (pc := 17) (i := 3) dX10_goEvening_17 rfl (lnl_v rfl rfl) (Nat.le_of_ble_eq_true rfl) ?_
  exact ev_le (lvle_s (lvle_s (lvle_n (lvle_s lvle_z)))) (KMd_goEvening_b18  hL)
set_option maxHeartbeats 1000000 in
set_option maxRecDepth 100000 in
theorem KMd_never_b41_body {ω : Wd} {z : Nat → Prop} {k22 : Hp × Int × Int × Int → Option (Int × Hp)} {k41 : Hp × Int × Int × Int × Int → Option (Int × Hp)} {h h' : Hp} {x0 x1 x2 x4 r : Int} (hk22 : ∀ s o, k22 s = some o → EvB ω N_Md_never 5 (QB (some (iV o.1)) z o.2) z s.1 22 [some (aV ω s.2.1), some (iV s.2.2.1), some (iV s.2.2.2), none, none] []) (hk41 : ∀ s o, k41 s = some o → EvB ω N_Md_never 5 (QB (some (iV o.1)) z o.2) z s.1 41 [some (aV ω s.2.1), some (iV s.2.2.1), some (iV s.2.2.2.1), none, some (iV s.2.2.2.2)] []) (hL : Md_never_b41_body k22 k41 h x0 x1 x2 x4 = some (r, h')) : EvB ω N_Md_never 5 (QB (some (iV r)) z h') z h 41 [some (aV ω x0), some (iV x1), some (iV x2), none, some (iV x4)] [] := by
  unfold Md_never_b41_body at hL
  refine ev_iload (pc := 41) dX10_never_41 rfl ?_
  refine ev_aload_n (pc := 43) (i := 0) dX10_never_43 rfl rfl ?_
  obtain ⟨hs10, hL⟩ := cC_un hL
  refine ev_get (pc := 44) (c9 := 10) (k9 := 26) dX10_never_44 fl_Md_294 (by decide) hs10 gv10_26 ?_
  refine ev_icmp_ge (pc := 47) (tgt := 76) dX10_never_47 rfl hL rfl (fun hL => ?_) (fun hL => ?_)
  · refine ev_aload_n (pc := 50) (i := 0) dX10_never_50 rfl rfl ?_
    refine ev_get (pc := 51) (c9 := 10) (k9 := 38) dX10_never_51 fl_Md_81 (by decide) hs10 (gv10_38 hs10) ?_
    refine ev_iload (pc := 54) dX10_never_54 rfl ?_
    obtain ⟨q11a, q11b, q11c, hL⟩ := cX_un hL
    refine ev_iald (pc := 56) dX10_never_56 q11a q11b q11c ?_
    refine ev_iconst (pc := 57) dX10_never_57 ?_
    refine ev_icmp_eq (pc := 58) (tgt := 70) dX10_never_58 rfl hL rfl (fun hL => ?_) (fun hL => ?_)
    · refine ev_iinc (pc := 70) dX10_never_70 rfl (lnl_n rfl) (Nat.le_of_ble_eq_true rfl) ?_
      refine ev_goto (pc := 73) (tgt := 41) dX10_never_73 rfl ?_
      exact ev_le (lvle_s (lvle_s (lvle_s (lvle_n (lvle_s lvle_z))))) (hk41 _ _ hL)
    · refine ev_iload_n (pc := 61) (i := 1) dX10_never_61 rfl rfl ?_
      refine ev_iconst (pc := 62) dX10_never_62 ?_
      refine ev_iload (pc := 63) dX10_never_63 rfl ?_
      refine ev_ishl (pc := 65) dX10_never_65 ?_
      refine ev_iconst (pc := 66) dX10_never_66 ?_
      refine ev_ixor (pc := 67) dX10_never_67 ?_
      refine ev_iand (pc := 68) dX10_never_68 ?_
      refine ev_bdI hL (fun v12 hL => ?_)
      refine ev_istore_n (pc := 69) (i := 1) dX10_never_69 rfl (lnl_v (cat_aV _ _) rfl) (Nat.le_of_ble_eq_true rfl) ?_
      refine ev_iinc (pc := 70) dX10_never_70 rfl (lnl_n rfl) (Nat.le_of_ble_eq_true rfl) ?_
      refine ev_goto (pc := 73) (tgt := 41) dX10_never_73 rfl ?_
      exact ev_le (lvle_s (lvle_s (lvle_s (lvle_n (lvle_s lvle_z))))) (hk41 _ _ hL)
  · refine ev_iinc (pc := 76) dX10_never_76 rfl (lnl_v rfl rfl) (Nat.le_of_ble_eq_true rfl) ?_
    refine ev_goto (pc := 79) (tgt := 22) dX10_never_79 rfl ?_
    exact ev_le (lvle_s (lvle_s (lvle_s (lvle_n (lvle_n lvle_z))))) (hk22 _ _ hL)
set_option maxHeartbeats 1000000 in
set_option maxRecDepth 100000 in
theorem KMd_never_b41 {ω : Wd} {z : Nat → Prop} {k22 : Hp × Int × Int × Int → Option (Int × Hp)} {h h' : Hp} {x0 x1 x2 x4 r : Int} (hk22 : ∀ s o, k22 s = some o → EvB ω N_Md_never 5 (QB (some (iV o.1)) z o.2) z s.1 22 [some (aV ω s.2.1), some (iV s.2.2.1), some (iV s.2.2.2), none, none] []) (hL : Md_never_b41 k22 h x0 x1 x2 x4 = some (r, h')) : EvB ω N_Md_never 5 (QB (some (iV r)) z h') z h 41 [some (aV ω x0), some (iV x1), some (iV x2), none, some (iV x4)] [] := by
  unfold Md_never_b41 at hL
  refine itr_link (P := fun (s : Hp × Int × Int × Int × Int) (o : Int × Hp) => EvB ω N_Md_never 5 (QB (some (iV o.1)) z o.2) z s.1 41 [some (aV ω s.2.1), some (iV s.2.2.1), some (iV s.2.2.2.1), none, some (iV s.2.2.2.2)] []) ?_ _ _ _ hL
  intro k hk s o h9
  have h10 := KMd_never_b41_body (ω := ω) (z := z) (k22 := k22) (k41 := k) (h := s.1) (x0 := s.2.1) (x1 := s.2.2.1) (x2 := s.2.2.2.1) (x4 := s.2.2.2.2) (r := o.1) (h' := o.2) hk22
  exact h10 hk h9
set_option maxHeartbeats 1000000 in
set_option maxRecDepth 100000 in
theorem KMd_never_b22_body {ω : Wd} {z : Nat → Prop}  {k22 : Hp × Int × Int × Int → Option (Int × Hp)} {h h' : Hp} {x0 x1 x2 r : Int}  (hk22 : ∀ s o, k22 s = some o → EvB ω N_Md_never 5 (QB (some (iV o.1)) z o.2) z s.1 22 [some (aV ω s.2.1), some (iV s.2.2.1), some (iV s.2.2.2), none, none] []) (hL : Md_never_b22_body  k22 h x0 x1 x2 = some (r, h')) : EvB ω N_Md_never 5 (QB (some (iV r)) z h') z h 22 [some (aV ω x0), some (iV x1), some (iV x2), none, none] [] := by
  unfold Md_never_b22_body at hL
  refine ev_iload_n (pc := 22) (i := 2) dX10_never_22 rfl rfl ?_
  refine ev_bipush (pc := 23) dX10_never_23 (by decide) ?_
  refine ev_icmp_ge (pc := 25) (tgt := 82) dX10_never_25 rfl hL rfl (fun hL => ?_) (fun hL => ?_)
  · refine ev_aload_n (pc := 28) (i := 0) dX10_never_28 rfl rfl ?_
    refine ev_aload_n (pc := 29) (i := 0) dX10_never_29 rfl rfl ?_
    obtain ⟨hs6, hL⟩ := cC_un hL
    refine ev_get (pc := 30) (c9 := 10) (k9 := 33) dX10_never_30 fl_Md_64 (by decide) hs6 (gv10_33 hs6) ?_
    refine ev_iconst (pc := 33) dX10_never_33 ?_
    obtain ⟨r7, h8, hc9, hL⟩ := cl_un hL
    refine evB_callV_I (pc := 34) (M_Md_goEvening hc9) dX10_never_34 mt_Md_goEvening st_Md_goEvening ml_Md_390 hs6 (by decide) ⟨_, rfl, rfl⟩ (Nat.le_of_ble_eq_true rfl) rfl rfl (Nat.le_trans sm_z (by decide)) ?_
    refine ev_istore_n (pc := 37) (i := 3) dX10_never_37 rfl (lnl_v rfl rfl) (Nat.le_of_ble_eq_true rfl) ?_
    refine ev_iconst (pc := 38) dX10_never_38 ?_
    refine ev_istore (pc := 39) dX10_never_39 (lnl_v rfl rfl) (Nat.le_of_ble_eq_true rfl) ?_
    exact ev_le (lvle_s (lvle_s (lvle_s (lvle_n (lvle_s lvle_z))))) (KMd_never_b41 hk22 hL)
  · refine ev_iload_n (pc := 82) (i := 1) dX10_never_82 rfl rfl ?_
    exact evB_iret (pc := 83) dX10_never_83 rfl hL
set_option maxHeartbeats 1000000 in
set_option maxRecDepth 100000 in
theorem KMd_never_b22 {ω : Wd} {z : Nat → Prop}  {h h' : Hp} {x0 x1 x2 r : Int}  (hL : Md_never_b22 h x0 x1 x2 = some (r, h')) : EvB ω N_Md_never 5 (QB (some (iV r)) z h') z h 22 [some (aV ω x0), some (iV x1), some (iV x2), none, none] [] := by
  unfold Md_never_b22 at hL
  refine itr_link (P := fun (s : Hp × Int × Int × Int) (o : Int × Hp) => EvB ω N_Md_never 5 (QB (some (iV o.1)) z o.2) z s.1 22 [some (aV ω s.2.1), some (iV s.2.2.1), some (iV s.2.2.2), none, none] []) ?_ _ _ _ hL
  intro k hk s o h9
  have h10 := KMd_never_b22_body (ω := ω) (z := z) (k22 := k) (h := s.1) (x0 := s.2.1) (x1 := s.2.2.1) (x2 := s.2.2.2) (r := o.1) (h' := o.2) 
  exact h10 hk h9
set_option maxHeartbeats 1000000 in
set_option maxRecDepth 100000 in
theorem M_Md_never {ω : Wd} {z : Nat → Prop} {h h' : Hp} {a0 r : Int}  (hL : Md_never h a0 = some (r, h')) : CtB ω N_Md_never 5 [aV ω a0] z h (some (iV r)) h' := by
  unfold Md_never at hL
  refine Ct_of (lv := [some (aV ω a0), none, none, none, none]) (by decide) (Nat.le_trans (sl_1 (cat_aV _ _) sl_z) (Nat.le_of_ble_eq_true rfl)) (la_1 (cat_aV _ _) (la_n (la_n (la_n (la_n la_z))))) ?_
  refine ev_aload_n (pc := 0) (i := 0) dX10_never_0 rfl rfl ?_
  obtain ⟨hs1, hL⟩ := cC_un hL
  refine ev_get (pc := 1) (c9 := 10) (k9 := 32) dX10_never_1 fl_Md_61 (by decide) hs1 (gv10_32 hs1) ?_
  refine ev_aload_n (pc := 4) (i := 0) dX10_never_4 rfl rfl ?_
  refine ev_get (pc := 5) (c9 := 10) (k9 := 33) dX10_never_5 fl_Md_64 (by decide) hs1 (gv10_33 hs1) ?_
  obtain ⟨r2, h3, hc4, hL⟩ := cl_un hL
  refine evB_callS_V (pc := 8) (M_Md_copy hc4) dX10_never_8 mt_Md_copy st_Md_copy ml_Md_429 (Nat.le_of_ble_eq_true rfl) rfl rfl (Nat.le_trans sm_z (by decide)) ?_
  refine ev_iconst (pc := 11) dX10_never_11 ?_
  refine ev_aload_n (pc := 12) (i := 0) dX10_never_12 rfl rfl ?_
  refine ev_get (pc := 13) (c9 := 10) (k9 := 26) dX10_never_13 fl_Md_294 (by decide) hs1 gv10_26 ?_
  refine ev_ishl (pc := 16) dX10_never_16 ?_
  refine ev_iconst (pc := 17) dX10_never_17 ?_
  refine ev_isub (pc := 18) dX10_never_18 ?_
  refine ev_bdI hL (fun v5 hL => ?_)
  refine ev_istore_n (pc := 19) (i := 1) dX10_never_19 rfl (lnl_v (cat_aV _ _) rfl) (Nat.le_of_ble_eq_true rfl) ?_
  refine ev_iconst (pc := 20) dX10_never_20 ?_
  refine ev_istore_n (pc := 21) (i := 2) dX10_never_21 rfl (lnl_v rfl rfl) (Nat.le_of_ble_eq_true rfl) ?_
  exact ev_le (lvle_s (lvle_s (lvle_s (lvle_n (lvle_n lvle_z))))) (KMd_never_b22  hL)
set_option maxHeartbeats 1000000 in
set_option maxRecDepth 100000 in
theorem KMd_areParty_b14_body {ω : Wd} {z : Nat → Prop} {k2 : Hp × Int × Int × Int → Option (Int × Hp)} {k14 : Hp × Int × Int × Int × Int → Option (Int × Hp)} {h h' : Hp} {x0 x1 x2 x3 r : Int} (hk2 : ∀ s o, k2 s = some o → EvB ω N_Md_areParty 2 (QB (some (iV o.1)) z o.2) z s.1 2 [some (aV ω s.2.1), some (iV s.2.2.1), some (iV s.2.2.2), none] []) (hk14 : ∀ s o, k14 s = some o → EvB ω N_Md_areParty 2 (QB (some (iV o.1)) z o.2) z s.1 14 [some (aV ω s.2.1), some (iV s.2.2.1), some (iV s.2.2.2.1), some (iV s.2.2.2.2)] []) (hL : Md_areParty_b14_body k2 k14 h x0 x1 x2 x3 = some (r, h')) : EvB ω N_Md_areParty 2 (QB (some (iV r)) z h') z h 14 [some (aV ω x0), some (iV x1), some (iV x2), some (iV x3)] [] := by
  unfold Md_areParty_b14_body at hL
  refine ev_iload_n (pc := 14) (i := 3) dX10_areParty_14 rfl rfl ?_
  refine ev_aload_n (pc := 15) (i := 0) dX10_areParty_15 rfl rfl ?_
  obtain ⟨hs3, hL⟩ := cC_un hL
  refine ev_get (pc := 16) (c9 := 10) (k9 := 26) dX10_areParty_16 fl_Md_294 (by decide) hs3 gv10_26 ?_
  refine ev_icmp_ge (pc := 19) (tgt := 58) dX10_areParty_19 rfl hL rfl (fun hL => ?_) (fun hL => ?_)
  · refine ev_iload_n (pc := 22) (i := 1) dX10_areParty_22 rfl rfl ?_
    refine ev_iload_n (pc := 23) (i := 2) dX10_areParty_23 rfl rfl ?_
    obtain ⟨r4, h5, hc6, hL⟩ := cl_un hL
    refine evB_callS_I (pc := 24) (M_Md_has hc6) dX10_areParty_24 mt_Md_has st_Md_has ml_Md_229 (Nat.le_of_ble_eq_true rfl) rfl rfl (Nat.le_trans sm_z (by decide)) ?_
    refine ev_if_eq (pc := 27) (tgt := 52) dX10_areParty_27 rfl hL rfl (fun hL => ?_) (fun hL => ?_)
    · refine ev_iinc (pc := 52) dX10_areParty_52 rfl (lnl_v rfl rfl) (Nat.le_of_ble_eq_true rfl) ?_
      refine ev_goto (pc := 55) (tgt := 14) dX10_areParty_55 rfl ?_
      exact ev_le (lvle_s (lvle_s (lvle_s (lvle_s lvle_z)))) (hk14 _ _ hL)
    · refine ev_iload_n (pc := 30) (i := 1) dX10_areParty_30 rfl rfl ?_
      refine ev_iload_n (pc := 31) (i := 3) dX10_areParty_31 rfl rfl ?_
      obtain ⟨r7, h8, hc9, hL⟩ := cl_un hL
      refine evB_callS_I (pc := 32) (M_Md_has hc9) dX10_areParty_32 mt_Md_has st_Md_has ml_Md_229 (Nat.le_of_ble_eq_true rfl) rfl rfl (Nat.le_trans sm_z (by decide)) ?_
      refine ev_if_eq (pc := 35) (tgt := 52) dX10_areParty_35 rfl hL rfl (fun hL => ?_) (fun hL => ?_)
      · refine ev_iinc (pc := 52) dX10_areParty_52 rfl (lnl_v rfl rfl) (Nat.le_of_ble_eq_true rfl) ?_
        refine ev_goto (pc := 55) (tgt := 14) dX10_areParty_55 rfl ?_
        exact ev_le (lvle_s (lvle_s (lvle_s (lvle_s lvle_z)))) (hk14 _ _ hL)
      · refine ev_aload_n (pc := 38) (i := 0) dX10_areParty_38 rfl rfl ?_
        refine ev_get (pc := 39) (c9 := 10) (k9 := 32) dX10_areParty_39 fl_Md_61 (by decide) hs3 (gv10_32 hs3) ?_
        refine ev_iload_n (pc := 42) (i := 2) dX10_areParty_42 rfl rfl ?_
        refine ev_iload_n (pc := 43) (i := 3) dX10_areParty_43 rfl rfl ?_
        obtain ⟨r10, h11, hc12, hL⟩ := cl_un hL
        refine evB_callS_I (pc := 44) (M_Md_owes hc12) dX10_areParty_44 mt_Md_owes st_Md_owes ml_Md_312 (Nat.le_of_ble_eq_true rfl) rfl rfl (Nat.le_trans sm_z (by decide)) ?_
        refine ev_if_ne (pc := 47) (tgt := 52) dX10_areParty_47 rfl hL rfl (fun hL => ?_) (fun hL => ?_)
        · refine ev_iconst (pc := 50) dX10_areParty_50 ?_
          exact evB_zret (pc := 51) dX10_areParty_51 rfl rfl hL
        · refine ev_iinc (pc := 52) dX10_areParty_52 rfl (lnl_v rfl rfl) (Nat.le_of_ble_eq_true rfl) ?_
          refine ev_goto (pc := 55) (tgt := 14) dX10_areParty_55 rfl ?_
          exact ev_le (lvle_s (lvle_s (lvle_s (lvle_s lvle_z)))) (hk14 _ _ hL)
  · refine ev_iinc (pc := 58) dX10_areParty_58 rfl (lnl_v rfl rfl) (Nat.le_of_ble_eq_true rfl) ?_
    refine ev_goto (pc := 61) (tgt := 2) dX10_areParty_61 rfl ?_
    exact ev_le (lvle_s (lvle_s (lvle_s (lvle_n lvle_z)))) (hk2 _ _ hL)
set_option maxHeartbeats 1000000 in
set_option maxRecDepth 100000 in
theorem KMd_areParty_b14 {ω : Wd} {z : Nat → Prop} {k2 : Hp × Int × Int × Int → Option (Int × Hp)} {h h' : Hp} {x0 x1 x2 x3 r : Int} (hk2 : ∀ s o, k2 s = some o → EvB ω N_Md_areParty 2 (QB (some (iV o.1)) z o.2) z s.1 2 [some (aV ω s.2.1), some (iV s.2.2.1), some (iV s.2.2.2), none] []) (hL : Md_areParty_b14 k2 h x0 x1 x2 x3 = some (r, h')) : EvB ω N_Md_areParty 2 (QB (some (iV r)) z h') z h 14 [some (aV ω x0), some (iV x1), some (iV x2), some (iV x3)] [] := by
  unfold Md_areParty_b14 at hL
  refine itr_link (P := fun (s : Hp × Int × Int × Int × Int) (o : Int × Hp) => EvB ω N_Md_areParty 2 (QB (some (iV o.1)) z o.2) z s.1 14 [some (aV ω s.2.1), some (iV s.2.2.1), some (iV s.2.2.2.1), some (iV s.2.2.2.2)] []) ?_ _ _ _ hL
  intro k hk s o h9
  have h10 := KMd_areParty_b14_body (ω := ω) (z := z) (k2 := k2) (k14 := k) (h := s.1) (x0 := s.2.1) (x1 := s.2.2.1) (x2 := s.2.2.2.1) (x3 := s.2.2.2.2) (r := o.1) (h' := o.2) hk2
  exact h10 hk h9
set_option maxHeartbeats 1000000 in
set_option maxRecDepth 100000 in
theorem KMd_areParty_b2_body {ω : Wd} {z : Nat → Prop}  {k2 : Hp × Int × Int × Int → Option (Int × Hp)} {h h' : Hp} {x0 x1 x2 r : Int}  (hk2 : ∀ s o, k2 s = some o → EvB ω N_Md_areParty 2 (QB (some (iV o.1)) z o.2) z s.1 2 [some (aV ω s.2.1), some (iV s.2.2.1), some (iV s.2.2.2), none] []) (hL : Md_areParty_b2_body  k2 h x0 x1 x2 = some (r, h')) : EvB ω N_Md_areParty 2 (QB (some (iV r)) z h') z h 2 [some (aV ω x0), some (iV x1), some (iV x2), none] [] := by
  unfold Md_areParty_b2_body at hL
  refine ev_iload_n (pc := 2) (i := 2) dX10_areParty_2 rfl rfl ?_
  refine ev_aload_n (pc := 3) (i := 0) dX10_areParty_3 rfl rfl ?_
  obtain ⟨hs1, hL⟩ := cC_un hL
  refine ev_get (pc := 4) (c9 := 10) (k9 := 26) dX10_areParty_4 fl_Md_294 (by decide) hs1 gv10_26 ?_
  refine ev_icmp_ge (pc := 7) (tgt := 64) dX10_areParty_7 rfl hL rfl (fun hL => ?_) (fun hL => ?_)
  · refine ev_iload_n (pc := 10) (i := 2) dX10_areParty_10 rfl rfl ?_
    refine ev_iconst (pc := 11) dX10_areParty_11 ?_
    refine ev_iadd (pc := 12) dX10_areParty_12 ?_
    refine ev_bdI hL (fun v2 hL => ?_)
    refine ev_istore_n (pc := 13) (i := 3) dX10_areParty_13 rfl (lnl_v rfl rfl) (Nat.le_of_ble_eq_true rfl) ?_
    exact ev_le (lvle_s (lvle_s (lvle_s (lvle_s lvle_z)))) (KMd_areParty_b14 hk2 hL)
  · refine ev_iconst (pc := 64) dX10_areParty_64 ?_
    exact evB_zret (pc := 65) dX10_areParty_65 rfl rfl hL
set_option maxHeartbeats 1000000 in
set_option maxRecDepth 100000 in
theorem KMd_areParty_b2 {ω : Wd} {z : Nat → Prop}  {h h' : Hp} {x0 x1 x2 r : Int}  (hL : Md_areParty_b2 h x0 x1 x2 = some (r, h')) : EvB ω N_Md_areParty 2 (QB (some (iV r)) z h') z h 2 [some (aV ω x0), some (iV x1), some (iV x2), none] [] := by
  unfold Md_areParty_b2 at hL
  refine itr_link (P := fun (s : Hp × Int × Int × Int) (o : Int × Hp) => EvB ω N_Md_areParty 2 (QB (some (iV o.1)) z o.2) z s.1 2 [some (aV ω s.2.1), some (iV s.2.2.1), some (iV s.2.2.2), none] []) ?_ _ _ _ hL
  intro k hk s o h9
  have h10 := KMd_areParty_b2_body (ω := ω) (z := z) (k2 := k) (h := s.1) (x0 := s.2.1) (x1 := s.2.2.1) (x2 := s.2.2.2) (r := o.1) (h' := o.2) 
  exact h10 hk h9
set_option maxHeartbeats 1000000 in
set_option maxRecDepth 100000 in
theorem M_Md_areParty {ω : Wd} {z : Nat → Prop} {h h' : Hp} {a0 a1 r : Int}  (hL : Md_areParty h a0 a1 = some (r, h')) : CtB ω N_Md_areParty 2 [aV ω a0, iV a1] z h (some (iV r)) h' := by
  unfold Md_areParty at hL
  refine Ct_of (lv := [some (aV ω a0), some (iV a1), none, none]) (by decide) (Nat.le_trans (sl_1 (cat_aV _ _) (sl_1 (cat_iV _) sl_z)) (Nat.le_of_ble_eq_true rfl)) (la_1 (cat_aV _ _) (la_1 (cat_iV _) (la_n (la_n la_z)))) ?_
  refine ev_iconst (pc := 0) dX10_areParty_0 ?_
  refine ev_istore_n (pc := 1) (i := 2) dX10_areParty_1 rfl (lnl_v rfl rfl) (Nat.le_of_ble_eq_true rfl) ?_
  exact ev_le (lvle_s (lvle_s (lvle_s (lvle_n lvle_z)))) (KMd_areParty_b2  hL)
set_option maxHeartbeats 1000000 in
set_option maxRecDepth 100000 in
theorem KMd_party_b4_body {ω : Wd} {z : Nat → Prop}  {k4 : Hp × Int × Int × Int → Option (Int × Hp)} {h h' : Hp} {x0 x1 x2 r : Int}  (hk4 : ∀ s o, k4 s = some o → EvB ω N_Md_party 3 (QB (some (iV o.1)) z o.2) z s.1 4 [some (aV ω s.2.1), some (iV s.2.2.1), some (iV s.2.2.2)] []) (hL : Md_party_b4_body  k4 h x0 x1 x2 = some (r, h')) : EvB ω N_Md_party 3 (QB (some (iV r)) z h') z h 4 [some (aV ω x0), some (iV x1), some (iV x2)] [] := by
  unfold Md_party_b4_body at hL
  refine ev_iload_n (pc := 4) (i := 2) dX10_party_4 rfl rfl ?_
  refine ev_iconst (pc := 5) dX10_party_5 ?_
  refine ev_aload_n (pc := 6) (i := 0) dX10_party_6 rfl rfl ?_
  obtain ⟨hs1, hL⟩ := cC_un hL
  refine ev_get (pc := 7) (c9 := 10) (k9 := 26) dX10_party_7 fl_Md_294 (by decide) hs1 gv10_26 ?_
  refine ev_ishl (pc := 10) dX10_party_10 ?_
  refine ev_icmp_ge (pc := 11) (tgt := 41) dX10_party_11 rfl hL rfl (fun hL => ?_) (fun hL => ?_)
  · refine ev_iload_n (pc := 14) (i := 2) dX10_party_14 rfl rfl ?_
    obtain ⟨r2, h3, hc4, hL⟩ := cl_un hL
    refine evB_callS_I (pc := 15) (M_Ji_bitCount hc4) dX10_party_15 mt_Ji_bitCount st_Ji_bitCount ml_Md_442 (Nat.le_of_ble_eq_true rfl) rfl rfl (Nat.le_trans sm_z (by decide)) ?_
    refine ev_iload_n (pc := 18) (i := 1) dX10_party_18 rfl rfl ?_
    refine ev_icmp_le (pc := 19) (tgt := 35) dX10_party_19 rfl hL rfl (fun hL => ?_) (fun hL => ?_)
    · refine ev_aload_n (pc := 22) (i := 0) dX10_party_22 rfl rfl ?_
      refine ev_iload_n (pc := 23) (i := 2) dX10_party_23 rfl rfl ?_
      obtain ⟨r5, h6, hc7, hL⟩ := cl_un hL
      refine evB_callV_I (pc := 24) (M_Md_areParty hc7) dX10_party_24 mt_Md_areParty st_Md_areParty ml_Md_505 hs1 (by decide) ⟨_, rfl, rfl⟩ (Nat.le_of_ble_eq_true rfl) rfl rfl (Nat.le_trans sm_z (by decide)) ?_
      refine ev_if_eq (pc := 27) (tgt := 35) dX10_party_27 rfl hL rfl (fun hL => ?_) (fun hL => ?_)
      · refine ev_iinc (pc := 35) dX10_party_35 rfl (lnl_v rfl rfl) (Nat.le_of_ble_eq_true rfl) ?_
        refine ev_goto (pc := 38) (tgt := 4) dX10_party_38 rfl ?_
        exact ev_le (lvle_s (lvle_s (lvle_s lvle_z))) (hk4 _ _ hL)
      · refine ev_iload_n (pc := 30) (i := 2) dX10_party_30 rfl rfl ?_
        obtain ⟨r8, h9, hc10, hL⟩ := cl_un hL
        refine evB_callS_I (pc := 31) (M_Ji_bitCount hc10) dX10_party_31 mt_Ji_bitCount st_Ji_bitCount ml_Md_442 (Nat.le_of_ble_eq_true rfl) rfl rfl (Nat.le_trans sm_z (by decide)) ?_
        refine ev_istore_n (pc := 34) (i := 1) dX10_party_34 rfl (lnl_v (cat_aV _ _) rfl) (Nat.le_of_ble_eq_true rfl) ?_
        refine ev_iinc (pc := 35) dX10_party_35 rfl (lnl_v rfl rfl) (Nat.le_of_ble_eq_true rfl) ?_
        refine ev_goto (pc := 38) (tgt := 4) dX10_party_38 rfl ?_
        exact ev_le (lvle_s (lvle_s (lvle_s lvle_z))) (hk4 _ _ hL)
    · refine ev_iinc (pc := 35) dX10_party_35 rfl (lnl_v rfl rfl) (Nat.le_of_ble_eq_true rfl) ?_
      refine ev_goto (pc := 38) (tgt := 4) dX10_party_38 rfl ?_
      exact ev_le (lvle_s (lvle_s (lvle_s lvle_z))) (hk4 _ _ hL)
  · refine ev_iload_n (pc := 41) (i := 1) dX10_party_41 rfl rfl ?_
    exact evB_iret (pc := 42) dX10_party_42 rfl hL
set_option maxHeartbeats 1000000 in
set_option maxRecDepth 100000 in
theorem KMd_party_b4 {ω : Wd} {z : Nat → Prop}  {h h' : Hp} {x0 x1 x2 r : Int}  (hL : Md_party_b4 h x0 x1 x2 = some (r, h')) : EvB ω N_Md_party 3 (QB (some (iV r)) z h') z h 4 [some (aV ω x0), some (iV x1), some (iV x2)] [] := by
  unfold Md_party_b4 at hL
  refine itr_link (P := fun (s : Hp × Int × Int × Int) (o : Int × Hp) => EvB ω N_Md_party 3 (QB (some (iV o.1)) z o.2) z s.1 4 [some (aV ω s.2.1), some (iV s.2.2.1), some (iV s.2.2.2)] []) ?_ _ _ _ hL
  intro k hk s o h9
  have h10 := KMd_party_b4_body (ω := ω) (z := z) (k4 := k) (h := s.1) (x0 := s.2.1) (x1 := s.2.2.1) (x2 := s.2.2.2) (r := o.1) (h' := o.2) 
  exact h10 hk h9
set_option maxHeartbeats 1000000 in
set_option maxRecDepth 100000 in
theorem M_Md_party {ω : Wd} {z : Nat → Prop} {h h' : Hp} {a0 r : Int}  (hL : Md_party h a0 = some (r, h')) : CtB ω N_Md_party 3 [aV ω a0] z h (some (iV r)) h' := by
  unfold Md_party at hL
  refine Ct_of (lv := [some (aV ω a0), none, none]) (by decide) (Nat.le_trans (sl_1 (cat_aV _ _) sl_z) (Nat.le_of_ble_eq_true rfl)) (la_1 (cat_aV _ _) (la_n (la_n la_z))) ?_
  refine ev_iconst (pc := 0) dX10_party_0 ?_
  refine ev_istore_n (pc := 1) (i := 1) dX10_party_1 rfl (lnl_v (cat_aV _ _) rfl) (Nat.le_of_ble_eq_true rfl) ?_
  refine ev_iconst (pc := 2) dX10_party_2 ?_
  refine ev_istore_n (pc := 3) (i := 2) dX10_party_3 rfl (lnl_v rfl rfl) (Nat.le_of_ble_eq_true rfl) ?_
  exact ev_le (lvle_s (lvle_s (lvle_s lvle_z))) (KMd_party_b4  hL)
set_option maxHeartbeats 1000000 in
set_option maxRecDepth 100000 in
theorem M_Md_all {ω : Wd} {z : Nat → Prop} {h h' : Hp} {a0 a1 r : Int}  (hL : Md_all h a0 a1 = some (r, h')) : CtB ω N_Md_all 6 [aV ω a0, iV a1] z h (some (iV r)) h' := by
  unfold Md_all at hL
  refine Ct_of (lv := [some (aV ω a0), some (iV a1)]) (by decide) (Nat.le_trans (sl_1 (cat_aV _ _) (sl_1 (cat_iV _) sl_z)) (Nat.le_of_ble_eq_true rfl)) (la_1 (cat_aV _ _) (la_1 (cat_iV _) la_z)) ?_
  refine ev_aload_n (pc := 0) (i := 0) dX10_all_0 rfl rfl ?_
  refine ev_iconst (pc := 1) dX10_all_1 ?_
  obtain ⟨hs1, hL⟩ := cC_un hL
  refine evB_putI (pc := 2) (c9 := 10) (k9 := 0) (kI := 0) dX10_all_2 fl_Md_96 hs1 (by decide) (fun q hq => by cases hq; rfl) rfl rfl rfl ?_
  refine ev_puG hL (fun h2 hL => ?_)
  refine ev_aload_n (pc := 5) (i := 0) dX10_all_5 rfl rfl ?_
  refine ev_get (pc := 6) (c9 := 10) (k9 := 26) dX10_all_6 fl_Md_294 (by decide) hs1 gv10_26 ?_
  refine ev_if_ne (pc := 9) (tgt := 14) dX10_all_9 rfl hL rfl (fun hL => ?_) (fun hL => ?_)
  · refine ev_iconst (pc := 12) dX10_all_12 ?_
    exact evB_iret (pc := 13) dX10_all_13 rfl hL
  · refine ev_iload_n (pc := 14) (i := 1) dX10_all_14 rfl rfl ?_
    rcases ite_un hL with ⟨hx, hL⟩ | ⟨hx6, hL⟩
    · refine evB_tswIn (pc := 15) (tgt := 68) dX10_all_15 hx (by decide) (by decide) rfl rfl ?_
      refine ev_aload_n (pc := 68) (i := 0) dX10_all_68 rfl rfl ?_
      refine ev_iload_n (pc := 69) (i := 1) dX10_all_69 rfl rfl ?_
      obtain ⟨r3, h4, hc5, hL⟩ := cl_un hL
      refine evB_callV_I (pc := 70) (M_Md_greatest hc5) dX10_all_70 mt_Md_greatest st_Md_greatest ml_Md_508 hs1 (by decide) ⟨_, rfl, rfl⟩ (Nat.le_of_ble_eq_true rfl) rfl rfl (Nat.le_trans sm_z (by decide)) ?_
      exact evB_iret (pc := 73) dX10_all_73 rfl hL
    · rcases ite_un hL with ⟨hx, hL⟩ | ⟨hx10, hL⟩
      · refine evB_tswIn (pc := 15) (tgt := 68) dX10_all_15 hx (by decide) (by decide) rfl rfl ?_
        refine ev_aload_n (pc := 68) (i := 0) dX10_all_68 rfl rfl ?_
        refine ev_iload_n (pc := 69) (i := 1) dX10_all_69 rfl rfl ?_
        obtain ⟨r7, h8, hc9, hL⟩ := cl_un hL
        refine evB_callV_I (pc := 70) (M_Md_greatest hc9) dX10_all_70 mt_Md_greatest st_Md_greatest ml_Md_508 hs1 (by decide) ⟨_, rfl, rfl⟩ (Nat.le_of_ble_eq_true rfl) rfl rfl (Nat.le_trans sm_z (by decide)) ?_
        exact evB_iret (pc := 73) dX10_all_73 rfl hL
      · rcases ite_un hL with ⟨hx, hL⟩ | ⟨hx14, hL⟩
        · refine evB_tswIn (pc := 15) (tgt := 68) dX10_all_15 hx (by decide) (by decide) rfl rfl ?_
          refine ev_aload_n (pc := 68) (i := 0) dX10_all_68 rfl rfl ?_
          refine ev_iload_n (pc := 69) (i := 1) dX10_all_69 rfl rfl ?_
          obtain ⟨r11, h12, hc13, hL⟩ := cl_un hL
          refine evB_callV_I (pc := 70) (M_Md_greatest hc13) dX10_all_70 mt_Md_greatest st_Md_greatest ml_Md_508 hs1 (by decide) ⟨_, rfl, rfl⟩ (Nat.le_of_ble_eq_true rfl) rfl rfl (Nat.le_trans sm_z (by decide)) ?_
          exact evB_iret (pc := 73) dX10_all_73 rfl hL
        · rcases ite_un hL with ⟨hx, hL⟩ | ⟨hx18, hL⟩
          · refine evB_tswIn (pc := 15) (tgt := 68) dX10_all_15 hx (by decide) (by decide) rfl rfl ?_
            refine ev_aload_n (pc := 68) (i := 0) dX10_all_68 rfl rfl ?_
            refine ev_iload_n (pc := 69) (i := 1) dX10_all_69 rfl rfl ?_
            obtain ⟨r15, h16, hc17, hL⟩ := cl_un hL
            refine evB_callV_I (pc := 70) (M_Md_greatest hc17) dX10_all_70 mt_Md_greatest st_Md_greatest ml_Md_508 hs1 (by decide) ⟨_, rfl, rfl⟩ (Nat.le_of_ble_eq_true rfl) rfl rfl (Nat.le_trans sm_z (by decide)) ?_
            exact evB_iret (pc := 73) dX10_all_73 rfl hL
          · rcases ite_un hL with ⟨hx, hL⟩ | ⟨hx20, hL⟩
            · refine evB_tswIn (pc := 15) (tgt := 74) dX10_all_15 hx (by decide) (by decide) rfl rfl ?_
              refine ev_iconst (pc := 74) dX10_all_74 ?_
              refine ev_aload_n (pc := 75) (i := 0) dX10_all_75 rfl rfl ?_
              refine ev_get (pc := 76) (c9 := 10) (k9 := 27) dX10_all_76 fl_Md_297 (by decide) hs1 gv10_27 ?_
              refine ev_ishl (pc := 79) dX10_all_79 ?_
              refine ev_iconst (pc := 80) dX10_all_80 ?_
              refine ev_isub (pc := 81) dX10_all_81 ?_
              refine ev_aload_n (pc := 82) (i := 0) dX10_all_82 rfl rfl ?_
              refine ev_get (pc := 83) (c9 := 10) (k9 := 32) dX10_all_83 fl_Md_61 (by decide) hs1 (gv10_32 hs1) ?_
              refine ev_bipush (pc := 86) dX10_all_86 (by decide) ?_
              obtain ⟨q19a, q19b, q19c, hL⟩ := cX_un hL
              refine ev_iald (pc := 88) dX10_all_88 q19a q19b q19c ?_
              refine ev_iconst (pc := 89) dX10_all_89 ?_
              refine ev_ixor (pc := 90) dX10_all_90 ?_
              refine ev_iand (pc := 91) dX10_all_91 ?_
              exact evB_iret (pc := 92) dX10_all_92 rfl hL
            · rcases ite_un hL with ⟨hx, hL⟩ | ⟨hx24, hL⟩
              · refine evB_tswIn (pc := 15) (tgt := 93) dX10_all_15 hx (by decide) (by decide) rfl rfl ?_
                refine ev_aload_n (pc := 93) (i := 0) dX10_all_93 rfl rfl ?_
                refine ev_aload_n (pc := 94) (i := 0) dX10_all_94 rfl rfl ?_
                refine ev_get (pc := 95) (c9 := 10) (k9 := 32) dX10_all_95 fl_Md_61 (by decide) hs1 (gv10_32 hs1) ?_
                obtain ⟨r21, h22, hc23, hL⟩ := cl_un hL
                refine evB_callV_I (pc := 98) (M_Md_allOwed hc23) dX10_all_98 mt_Md_allOwed st_Md_allOwed ml_Md_360 hs1 (by decide) ⟨_, rfl, rfl⟩ (Nat.le_of_ble_eq_true rfl) rfl rfl (Nat.le_trans sm_z (by decide)) ?_
                exact evB_iret (pc := 101) dX10_all_101 rfl hL
              · rcases ite_un hL with ⟨hx, hL⟩ | ⟨hx28, hL⟩
                · refine evB_tswIn (pc := 15) (tgt := 102) dX10_all_15 hx (by decide) (by decide) rfl rfl ?_
                  refine ev_aload_n (pc := 102) (i := 0) dX10_all_102 rfl rfl ?_
                  obtain ⟨r25, h26, hc27, hL⟩ := cl_un hL
                  refine evB_callV_I (pc := 103) (M_Md_free hc27) dX10_all_103 mt_Md_free st_Md_free ml_Md_511 hs1 (by decide) ⟨_, rfl, rfl⟩ (Nat.le_of_ble_eq_true rfl) rfl rfl (Nat.le_trans sm_z (by decide)) ?_
                  exact evB_iret (pc := 106) dX10_all_106 rfl hL
                · rcases ite_un hL with ⟨hx, hL⟩ | ⟨hx30, hL⟩
                  · refine evB_tswIn (pc := 15) (tgt := 107) dX10_all_15 hx (by decide) (by decide) rfl rfl ?_
                    refine ev_aload_n (pc := 107) (i := 0) dX10_all_107 rfl rfl ?_
                    refine ev_get (pc := 108) (c9 := 10) (k9 := 32) dX10_all_108 fl_Md_61 (by decide) hs1 (gv10_32 hs1) ?_
                    refine ev_bipush (pc := 111) dX10_all_111 (by decide) ?_
                    obtain ⟨q29a, q29b, q29c, hL⟩ := cX_un hL
                    refine ev_iald (pc := 113) dX10_all_113 q29a q29b q29c ?_
                    exact evB_iret (pc := 114) dX10_all_114 rfl hL
                  · rcases ite_un hL with ⟨hx, hL⟩ | ⟨hx34, hL⟩
                    · refine evB_tswIn (pc := 15) (tgt := 115) dX10_all_15 hx (by decide) (by decide) rfl rfl ?_
                      refine ev_aload_n (pc := 115) (i := 0) dX10_all_115 rfl rfl ?_
                      obtain ⟨r31, h32, hc33, hL⟩ := cl_un hL
                      refine evB_callV_I (pc := 116) (M_Md_never hc33) dX10_all_116 mt_Md_never st_Md_never ml_Md_514 hs1 (by decide) ⟨_, rfl, rfl⟩ (Nat.le_of_ble_eq_true rfl) rfl rfl (Nat.le_trans sm_z (by decide)) ?_
                      exact evB_iret (pc := 119) dX10_all_119 rfl hL
                    · rcases ite_un hL with ⟨hx, hL⟩ | ⟨hx38, hL⟩
                      · refine evB_tswIn (pc := 15) (tgt := 120) dX10_all_15 hx (by decide) (by decide) rfl rfl ?_
                        refine ev_aload_n (pc := 120) (i := 0) dX10_all_120 rfl rfl ?_
                        obtain ⟨r35, h36, hc37, hL⟩ := cl_un hL
                        refine evB_callV_I (pc := 121) (M_Md_party hc37) dX10_all_121 mt_Md_party st_Md_party ml_Md_517 hs1 (by decide) ⟨_, rfl, rfl⟩ (Nat.le_of_ble_eq_true rfl) rfl rfl (Nat.le_trans sm_z (by decide)) ?_
                        exact evB_iret (pc := 124) dX10_all_124 rfl hL
                      · refine evB_tswOut (pc := 15) (tgt := 125) dX10_all_15 (by omega) rfl ?_
                        refine ev_iconst (pc := 125) dX10_all_125 ?_
                        exact evB_iret (pc := 126) dX10_all_126 rfl hL
set_option maxHeartbeats 1000000 in
set_option maxRecDepth 100000 in
theorem M_Md_appeals {ω : Wd} {z : Nat → Prop} {h h' : Hp} {a0 a1 a2 r : Int}  (hL : Md_appeals h a0 a1 a2 = some (r, h')) : CtB ω N_Md_appeals 2 [aV ω a0, iV a1, iV a2] z h none h' := by
  unfold Md_appeals at hL
  refine Ct_of (lv := [some (aV ω a0), some (iV a1), some (iV a2)]) (by decide) (Nat.le_trans (sl_1 (cat_aV _ _) (sl_1 (cat_iV _) (sl_1 (cat_iV _) sl_z))) (Nat.le_of_ble_eq_true rfl)) (la_1 (cat_aV _ _) (la_1 (cat_iV _) (la_1 (cat_iV _) la_z))) ?_
  refine ev_aload_n (pc := 0) (i := 0) dX10_appeals_0 rfl rfl ?_
  refine ev_bipush (pc := 1) dX10_appeals_1 (by decide) ?_
  refine ev_dup2 (pc := 3) dX10_appeals_3 rfl (cat_aV _ _) ?_
  obtain ⟨q1a, q1b, q1c, hL⟩ := cX_un hL
  refine ev_iald (pc := 4) dX10_appeals_4 q1a q1b q1c ?_
  refine ev_iconst (pc := 5) dX10_appeals_5 ?_
  refine ev_isub (pc := 6) dX10_appeals_6 ?_
  obtain ⟨q2a, q2d, q2b, q2c, hL⟩ := cY_un hL
  refine ev_iast (pc := 7) dX10_appeals_7 q2a q2d q2b q2c ?_
  refine ev_puG hL (fun h3 hL => ?_)
  refine ev_aload_n (pc := 8) (i := 0) dX10_appeals_8 rfl rfl ?_
  refine ev_iload_n (pc := 9) (i := 1) dX10_appeals_9 rfl rfl ?_
  refine ev_iload_n (pc := 10) (i := 2) dX10_appeals_10 rfl rfl ?_
  refine ev_aload_n (pc := 11) (i := 0) dX10_appeals_11 rfl rfl ?_
  refine ev_iload_n (pc := 12) (i := 1) dX10_appeals_12 rfl rfl ?_
  refine ev_iload_n (pc := 13) (i := 2) dX10_appeals_13 rfl rfl ?_
  obtain ⟨r4, h5, hc6, hL⟩ := cl_un hL
  refine evB_callS_I (pc := 14) (M_Md_owes hc6) dX10_appeals_14 mt_Md_owes st_Md_owes ml_Md_312 (Nat.le_of_ble_eq_true rfl) rfl rfl (Nat.le_trans (sm_1 (cat_iV _) (sm_1 (cat_iV _) (sm_1 (cat_aV _ _) sm_z))) (by decide)) ?_
  refine ev_aload_n (pc := 17) (i := 0) dX10_appeals_17 rfl rfl ?_
  refine ev_iload_n (pc := 18) (i := 1) dX10_appeals_18 rfl rfl ?_
  refine ev_iload_n (pc := 19) (i := 2) dX10_appeals_19 rfl rfl ?_
  obtain ⟨r7, h8, hc9, hL⟩ := cl_un hL
  refine evB_callS_I (pc := 20) (M_Md_owes hc9) dX10_appeals_20 mt_Md_owes st_Md_owes ml_Md_312 (Nat.le_of_ble_eq_true rfl) rfl rfl (Nat.le_trans (sm_1 (cat_iV _) (sm_1 (cat_iV _) (sm_1 (cat_iV _) (sm_1 (cat_aV _ _) sm_z)))) (by decide)) ?_
  refine ev_iconst (pc := 23) dX10_appeals_23 ?_
  refine ev_idiv (pc := 24) dX10_appeals_24 hL (fun hL => ?_)
  refine ev_isub (pc := 25) dX10_appeals_25 ?_
  obtain ⟨r10, h11, hc12, hL⟩ := cl_un hL
  refine evB_callS_V (pc := 26) (M_Md_lays hc12) dX10_appeals_26 mt_Md_lays st_Md_lays ml_Md_318 (Nat.le_of_ble_eq_true rfl) rfl rfl (Nat.le_trans sm_z (by decide)) ?_
  exact evB_vret (pc := 29) dX10_appeals_29 rfl hL
set_option maxHeartbeats 1000000 in
set_option maxRecDepth 100000 in
theorem M_Md_isPerson {ω : Wd} {z : Nat → Prop} {h h' : Hp} {a0 a1 r : Int}  (hL : Md_isPerson h a0 a1 = some (r, h')) : CtB ω N_Md_isPerson 1 [aV ω a0, iV a1] z h (some (iV r)) h' := by
  unfold Md_isPerson at hL
  refine Ct_of (lv := [some (aV ω a0), some (iV a1)]) (by decide) (Nat.le_trans (sl_1 (cat_aV _ _) (sl_1 (cat_iV _) sl_z)) (Nat.le_of_ble_eq_true rfl)) (la_1 (cat_aV _ _) (la_1 (cat_iV _) la_z)) ?_
  refine ev_iload_n (pc := 0) (i := 1) dX10_isPerson_0 rfl rfl ?_
  refine ev_if_lt (pc := 1) (tgt := 16) dX10_isPerson_1 rfl hL rfl (fun hL => ?_) (fun hL => ?_)
  · refine ev_iconst (pc := 16) dX10_isPerson_16 ?_
    exact evB_zret (pc := 17) dX10_isPerson_17 rfl rfl hL
  · refine ev_iload_n (pc := 4) (i := 1) dX10_isPerson_4 rfl rfl ?_
    refine ev_aload_n (pc := 5) (i := 0) dX10_isPerson_5 rfl rfl ?_
    obtain ⟨hs1, hL⟩ := cC_un hL
    refine ev_get (pc := 6) (c9 := 10) (k9 := 26) dX10_isPerson_6 fl_Md_294 (by decide) hs1 gv10_26 ?_
    refine ev_icmp_ge (pc := 9) (tgt := 16) dX10_isPerson_9 rfl hL rfl (fun hL => ?_) (fun hL => ?_)
    · refine ev_iconst (pc := 12) dX10_isPerson_12 ?_
      refine ev_goto (pc := 13) (tgt := 17) dX10_isPerson_13 rfl ?_
      exact evB_zret (pc := 17) dX10_isPerson_17 rfl rfl hL
    · refine ev_iconst (pc := 16) dX10_isPerson_16 ?_
      exact evB_zret (pc := 17) dX10_isPerson_17 rfl rfl hL
set_option maxHeartbeats 1000000 in
set_option maxRecDepth 100000 in
theorem M_Md_areTwo {ω : Wd} {z : Nat → Prop} {h h' : Hp} {a0 a1 a2 r : Int}  (hL : Md_areTwo h a0 a1 a2 = some (r, h')) : CtB ω N_Md_areTwo 2 [aV ω a0, iV a1, iV a2] z h (some (iV r)) h' := by
  unfold Md_areTwo at hL
  refine Ct_of (lv := [some (aV ω a0), some (iV a1), some (iV a2)]) (by decide) (Nat.le_trans (sl_1 (cat_aV _ _) (sl_1 (cat_iV _) (sl_1 (cat_iV _) sl_z))) (Nat.le_of_ble_eq_true rfl)) (la_1 (cat_aV _ _) (la_1 (cat_iV _) (la_1 (cat_iV _) la_z))) ?_
  refine ev_aload_n (pc := 0) (i := 0) dX10_areTwo_0 rfl rfl ?_
  refine ev_iload_n (pc := 1) (i := 1) dX10_areTwo_1 rfl rfl ?_
  obtain ⟨hs1, hL⟩ := cC_un hL
  obtain ⟨r2, h3, hc4, hL⟩ := cl_un hL
  refine evB_callV_I (pc := 2) (M_Md_isPerson hc4) dX10_areTwo_2 mt_Md_isPerson st_Md_isPerson ml_Md_309 hs1 (by decide) ⟨_, rfl, rfl⟩ (Nat.le_of_ble_eq_true rfl) rfl rfl (Nat.le_trans sm_z (by decide)) ?_
  refine ev_if_eq (pc := 5) (tgt := 25) dX10_areTwo_5 rfl hL rfl (fun hL => ?_) (fun hL => ?_)
  · refine ev_iconst (pc := 25) dX10_areTwo_25 ?_
    exact evB_zret (pc := 26) dX10_areTwo_26 rfl rfl hL
  · refine ev_aload_n (pc := 8) (i := 0) dX10_areTwo_8 rfl rfl ?_
    refine ev_iload_n (pc := 9) (i := 2) dX10_areTwo_9 rfl rfl ?_
    obtain ⟨r5, h6, hc7, hL⟩ := cl_un hL
    refine evB_callV_I (pc := 10) (M_Md_isPerson hc7) dX10_areTwo_10 mt_Md_isPerson st_Md_isPerson ml_Md_309 hs1 (by decide) ⟨_, rfl, rfl⟩ (Nat.le_of_ble_eq_true rfl) rfl rfl (Nat.le_trans sm_z (by decide)) ?_
    refine ev_if_eq (pc := 13) (tgt := 25) dX10_areTwo_13 rfl hL rfl (fun hL => ?_) (fun hL => ?_)
    · refine ev_iconst (pc := 25) dX10_areTwo_25 ?_
      exact evB_zret (pc := 26) dX10_areTwo_26 rfl rfl hL
    · refine ev_iload_n (pc := 16) (i := 1) dX10_areTwo_16 rfl rfl ?_
      refine ev_iload_n (pc := 17) (i := 2) dX10_areTwo_17 rfl rfl ?_
      refine ev_icmp_eq (pc := 18) (tgt := 25) dX10_areTwo_18 rfl hL rfl (fun hL => ?_) (fun hL => ?_)
      · refine ev_iconst (pc := 25) dX10_areTwo_25 ?_
        exact evB_zret (pc := 26) dX10_areTwo_26 rfl rfl hL
      · refine ev_iconst (pc := 21) dX10_areTwo_21 ?_
        refine ev_goto (pc := 22) (tgt := 26) dX10_areTwo_22 rfl ?_
        exact evB_zret (pc := 26) dX10_areTwo_26 rfl rfl hL
set_option maxHeartbeats 1000000 in
set_option maxRecDepth 100000 in
theorem M_Md_canAppeal {ω : Wd} {z : Nat → Prop} {h h' : Hp} {a0 a1 a2 a3 r : Int}  (hL : Md_canAppeal h a0 a1 a2 a3 = some (r, h')) : CtB ω N_Md_canAppeal 3 [aV ω a0, aV ω a1, iV a2, iV a3] z h (some (iV r)) h' := by
  unfold Md_canAppeal at hL
  refine Ct_of (lv := [some (aV ω a0), some (aV ω a1), some (iV a2), some (iV a3)]) (by decide) (Nat.le_trans (sl_1 (cat_aV _ _) (sl_1 (cat_aV _ _) (sl_1 (cat_iV _) (sl_1 (cat_iV _) sl_z)))) (Nat.le_of_ble_eq_true rfl)) (la_1 (cat_aV _ _) (la_1 (cat_aV _ _) (la_1 (cat_iV _) (la_1 (cat_iV _) la_z)))) ?_
  refine ev_aload_n (pc := 0) (i := 0) dX10_canAppeal_0 rfl rfl ?_
  refine ev_iload_n (pc := 1) (i := 2) dX10_canAppeal_1 rfl rfl ?_
  refine ev_iload_n (pc := 2) (i := 3) dX10_canAppeal_2 rfl rfl ?_
  obtain ⟨hs1, hL⟩ := cC_un hL
  obtain ⟨r2, h3, hc4, hL⟩ := cl_un hL
  refine evB_callV_I (pc := 3) (M_Md_areTwo hc4) dX10_canAppeal_3 mt_Md_areTwo st_Md_areTwo ml_Md_393 hs1 (by decide) ⟨_, rfl, rfl⟩ (Nat.le_of_ble_eq_true rfl) rfl rfl (Nat.le_trans sm_z (by decide)) ?_
  refine ev_if_eq (pc := 6) (tgt := 31) dX10_canAppeal_6 rfl hL rfl (fun hL => ?_) (fun hL => ?_)
  · refine ev_iconst (pc := 31) dX10_canAppeal_31 ?_
    exact evB_zret (pc := 32) dX10_canAppeal_32 rfl rfl hL
  · refine ev_aload_n (pc := 9) (i := 1) dX10_canAppeal_9 rfl rfl ?_
    refine ev_iload_n (pc := 10) (i := 2) dX10_canAppeal_10 rfl rfl ?_
    refine ev_iload_n (pc := 11) (i := 3) dX10_canAppeal_11 rfl rfl ?_
    obtain ⟨r5, h6, hc7, hL⟩ := cl_un hL
    refine evB_callS_I (pc := 12) (M_Md_owes hc7) dX10_canAppeal_12 mt_Md_owes st_Md_owes ml_Md_312 (Nat.le_of_ble_eq_true rfl) rfl rfl (Nat.le_trans sm_z (by decide)) ?_
    refine ev_iconst (pc := 15) dX10_canAppeal_15 ?_
    refine ev_icmp_lt (pc := 16) (tgt := 31) dX10_canAppeal_16 rfl hL rfl (fun hL => ?_) (fun hL => ?_)
    · refine ev_iconst (pc := 31) dX10_canAppeal_31 ?_
      exact evB_zret (pc := 32) dX10_canAppeal_32 rfl rfl hL
    · refine ev_aload_n (pc := 19) (i := 1) dX10_canAppeal_19 rfl rfl ?_
      refine ev_bipush (pc := 20) dX10_canAppeal_20 (by decide) ?_
      obtain ⟨q8a, q8b, q8c, hL⟩ := cX_un hL
      refine ev_iald (pc := 22) dX10_canAppeal_22 q8a q8b q8c ?_
      refine ev_iconst (pc := 23) dX10_canAppeal_23 ?_
      refine ev_icmp_lt (pc := 24) (tgt := 31) dX10_canAppeal_24 rfl hL rfl (fun hL => ?_) (fun hL => ?_)
      · refine ev_iconst (pc := 31) dX10_canAppeal_31 ?_
        exact evB_zret (pc := 32) dX10_canAppeal_32 rfl rfl hL
      · refine ev_iconst (pc := 27) dX10_canAppeal_27 ?_
        refine ev_goto (pc := 28) (tgt := 32) dX10_canAppeal_28 rfl ?_
        exact evB_zret (pc := 32) dX10_canAppeal_32 rfl rfl hL
