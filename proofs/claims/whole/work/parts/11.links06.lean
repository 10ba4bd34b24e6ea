set_option maxHeartbeats 1000000 in
set_option maxRecDepth 100000 in
theorem KMd_goMatch_b83 {ω : Wd} {z : Nat → Prop} {d0 : Nat} {kf : Hp × Int × Int × Int → Option (Int × Hp)}  {h h' : Hp} {x0 x2 x4 r : Int} (hkf : ∀ s o, kf s = some o → CtB ω N_Md_goMatch d0 [aV ω s.2.1, iV s.2.2.1, iV s.2.2.2] z s.1 none o.2) (hL : Md_goMatch_b83 kf h x0 x2 x4 = some (r, h')) : EvB ω N_Md_goMatch (d0 + 2) (QB none z h') z h 83 [some (aV ω x0), none, some (iV x2), none, some (iV x4)] [] := by
  unfold Md_goMatch_b83 at hL
  refine ev_aload_n (pc := 83) (i := 0) dX10_goMatch_83 rfl rfl ?_
  refine ev_iload (pc := 84) dX10_goMatch_84 rfl ?_
  obtain ⟨hs8, hL⟩ := cC_un hL
  refine evB_putI (pc := 86) (c9 := 10) (k9 := 44) (kI := 44) dX10_goMatch_86 fl_Md_447 hs8 (by decide) (fun q hq => by cases hq; rfl) rfl rfl rfl ?_
  refine ev_puG hL (fun h9 hL => ?_)
  refine ev_aload_n (pc := 89) (i := 0) dX10_goMatch_89 rfl rfl ?_
  refine ev_iload_n (pc := 90) (i := 2) dX10_goMatch_90 rfl rfl ?_
  refine evB_putI (pc := 91) (c9 := 10) (k9 := 45) (kI := 45) dX10_goMatch_91 fl_Md_450 hs8 (by decide) (fun q hq => by cases hq; rfl) rfl rfl rfl ?_
  refine ev_puG hL (fun h10 hL => ?_)
  exact evB_vret (pc := 94) dX10_goMatch_94 rfl hL
set_option maxHeartbeats 1000000 in
set_option maxRecDepth 100000 in
theorem KMd_goMatch_b51 {ω : Wd} {z : Nat → Prop} {d0 : Nat} {kf : Hp × Int × Int × Int → Option (Int × Hp)}  {h h' : Hp} {x0 x2 r : Int} (hkf : ∀ s o, kf s = some o → CtB ω N_Md_goMatch d0 [aV ω s.2.1, iV s.2.2.1, iV s.2.2.2] z s.1 none o.2) (hL : Md_goMatch_b51 kf h x0 x2 = some (r, h')) : EvB ω N_Md_goMatch (d0 + 2) (QB none z h') z h 51 [some (aV ω x0), none, some (iV x2), none, none] [] := by
  unfold Md_goMatch_b51 at hL
  refine ev_aload_n (pc := 51) (i := 0) dX10_goMatch_51 rfl rfl ?_
  obtain ⟨hs4, hL⟩ := cC_un hL
  obtain ⟨r5, h6, hc7, hL⟩ := cl_un hL
  refine evB_callV_I (pc := 52) (M_Md_rowOf hc7) dX10_goMatch_52 mt_Md_rowOf st_Md_rowOf ml_Md_439 hs4 (by decide) ⟨_, rfl, rfl⟩ (by omega) rfl rfl (Nat.le_trans sm_z (by decide)) ?_
  refine ev_istore (pc := 55) dX10_goMatch_55 (lnl_n rfl) (Nat.le_of_ble_eq_true rfl) ?_
  refine ev_aload_n (pc := 57) (i := 0) dX10_goMatch_57 rfl rfl ?_
  refine ev_get (pc := 58) (c9 := 10) (k9 := 44) dX10_goMatch_58 fl_Md_447 (by decide) hs4 gv10_44 ?_
  refine ev_iconst (pc := 61) dX10_goMatch_61 ?_
  refine ev_icmp_eq (pc := 62) (tgt := 83) dX10_goMatch_62 rfl hL rfl (fun hL => ?_) (fun hL => ?_)
  · exact ev_le (lvle_s (lvle_n (lvle_s (lvle_n (lvle_s lvle_z))))) (KMd_goMatch_b83 hkf hL)
  · refine ev_iload_n (pc := 65) (i := 2) dX10_goMatch_65 rfl rfl ?_
    refine ev_aload_n (pc := 66) (i := 0) dX10_goMatch_66 rfl rfl ?_
    refine ev_get (pc := 67) (c9 := 10) (k9 := 45) dX10_goMatch_67 fl_Md_450 (by decide) hs4 gv10_45 ?_
    refine ev_icmp_ne (pc := 70) (tgt := 83) dX10_goMatch_70 rfl hL rfl (fun hL => ?_) (fun hL => ?_)
    · refine ev_iload (pc := 73) dX10_goMatch_73 rfl ?_
      refine ev_aload_n (pc := 75) (i := 0) dX10_goMatch_75 rfl rfl ?_
      refine ev_get (pc := 76) (c9 := 10) (k9 := 44) dX10_goMatch_76 fl_Md_447 (by decide) hs4 gv10_44 ?_
      refine ev_icmp_lt (pc := 79) (tgt := 83) dX10_goMatch_79 rfl hL rfl (fun hL => ?_) (fun hL => ?_)
      · exact ev_le (lvle_s (lvle_n (lvle_s (lvle_n (lvle_s lvle_z))))) (KMd_goMatch_b83 hkf hL)
      · exact evB_vret (pc := 82) dX10_goMatch_82 rfl hL
    · exact ev_le (lvle_s (lvle_n (lvle_s (lvle_n (lvle_s lvle_z))))) (KMd_goMatch_b83 hkf hL)
set_option maxHeartbeats 1000000 in
set_option maxRecDepth 100000 in
theorem KMd_goMatch_b100_body {ω : Wd} {z : Nat → Prop} {d0 : Nat} {kf : Hp × Int × Int × Int → Option (Int × Hp)}  {k100 : Hp × Int × Int × Int × Int → Option (Int × Hp)} {h h' : Hp} {x0 x2 x3 x4 r : Int} (hkf : ∀ s o, kf s = some o → CtB ω N_Md_goMatch d0 [aV ω s.2.1, iV s.2.2.1, iV s.2.2.2] z s.1 none o.2) (hk100 : ∀ s o, k100 s = some o → EvB ω N_Md_goMatch (d0 + 2) (QB none z o.2) z s.1 100 [some (aV ω s.2.1), none, some (iV s.2.2.1), some (iV s.2.2.2.1), some (iV s.2.2.2.2)] []) (hL : Md_goMatch_b100_body kf k100 h x0 x2 x3 x4 = some (r, h')) : EvB ω N_Md_goMatch (d0 + 2) (QB none z h') z h 100 [some (aV ω x0), none, some (iV x2), some (iV x3), some (iV x4)] [] := by
  unfold Md_goMatch_b100_body at hL
  refine ev_iload (pc := 100) dX10_goMatch_100 rfl ?_
  refine ev_aload_n (pc := 102) (i := 0) dX10_goMatch_102 rfl rfl ?_
  obtain ⟨hs12, hL⟩ := cC_un hL
  refine ev_get (pc := 103) (c9 := 10) (k9 := 26) dX10_goMatch_103 fl_Md_294 (by decide) hs12 gv10_26 ?_
  refine ev_icmp_ge (pc := 106) (tgt := 193) dX10_goMatch_106 rfl hL rfl (fun hL => ?_) (fun hL => ?_)
  · refine ev_aload_n (pc := 109) (i := 0) dX10_goMatch_109 rfl rfl ?_
    refine ev_get (pc := 110) (c9 := 10) (k9 := 38) dX10_goMatch_110 fl_Md_81 (by decide) hs12 (gv10_38 hs12) ?_
    refine ev_iload (pc := 113) dX10_goMatch_113 rfl ?_
    obtain ⟨q13a, q13b, q13c, hL⟩ := cX_un hL
    refine ev_iald (pc := 115) dX10_goMatch_115 q13a q13b q13c ?_
    refine ev_iconst (pc := 116) dX10_goMatch_116 ?_
    refine ev_icmp_ne (pc := 117) (tgt := 187) dX10_goMatch_117 rfl hL rfl (fun hL => ?_) (fun hL => ?_)
    · refine ev_aload_n (pc := 120) (i := 0) dX10_goMatch_120 rfl rfl ?_
      refine ev_get (pc := 121) (c9 := 10) (k9 := 32) dX10_goMatch_121 fl_Md_61 (by decide) hs12 (gv10_32 hs12) ?_
      refine ev_iload_n (pc := 124) (i := 3) dX10_goMatch_124 rfl rfl ?_
      refine ev_iload (pc := 125) dX10_goMatch_125 rfl ?_
      obtain ⟨r14, h15, hc16, hL⟩ := cl_un hL
      refine evB_callS_I (pc := 127) (M_Md_owes hc16) dX10_goMatch_127 mt_Md_owes st_Md_owes ml_Md_312 (by omega) rfl rfl (Nat.le_trans sm_z (by decide)) ?_
      refine ev_if_ne (pc := 130) (tgt := 136) dX10_goMatch_130 rfl hL rfl (fun hL => ?_) (fun hL => ?_)
      · refine ev_goto (pc := 133) (tgt := 187) dX10_goMatch_133 rfl ?_
        refine ev_iinc (pc := 187) dX10_goMatch_187 rfl (lnl_v rfl rfl) (Nat.le_of_ble_eq_true rfl) ?_
        refine ev_goto (pc := 190) (tgt := 100) dX10_goMatch_190 rfl ?_
        exact ev_le (lvle_s (lvle_n (lvle_s (lvle_s (lvle_s lvle_z))))) (hk100 _ _ hL)
      · refine ev_aload_n (pc := 136) (i := 0) dX10_goMatch_136 rfl rfl ?_
        refine ev_get (pc := 137) (c9 := 10) (k9 := 38) dX10_goMatch_137 fl_Md_81 (by decide) hs12 (gv10_38 hs12) ?_
        refine ev_iload_n (pc := 140) (i := 3) dX10_goMatch_140 rfl rfl ?_
        refine ev_iload (pc := 141) dX10_goMatch_141 rfl ?_
        obtain ⟨q17a, q17d, q17b, q17c, hL⟩ := cY_un hL
        refine ev_iast (pc := 143) dX10_goMatch_143 q17a q17d q17b q17c ?_
        refine ev_puG hL (fun h18 hL => ?_)
        refine ev_aload_n (pc := 144) (i := 0) dX10_goMatch_144 rfl rfl ?_
        refine ev_get (pc := 145) (c9 := 10) (k9 := 38) dX10_goMatch_145 fl_Md_81 (by decide) hs12 (gv10_38 hs12) ?_
        refine ev_iload (pc := 148) dX10_goMatch_148 rfl ?_
        refine ev_iload_n (pc := 150) (i := 3) dX10_goMatch_150 rfl rfl ?_
        obtain ⟨q19a, q19d, q19b, q19c, hL⟩ := cY_un hL
        refine ev_iast (pc := 151) dX10_goMatch_151 q19a q19d q19b q19c ?_
        refine ev_puG hL (fun h20 hL => ?_)
        refine ev_aload_n (pc := 152) (i := 0) dX10_goMatch_152 rfl rfl ?_
        refine ev_iload_n (pc := 153) (i := 3) dX10_goMatch_153 rfl rfl ?_
        refine ev_iconst (pc := 154) dX10_goMatch_154 ?_
        refine ev_iadd (pc := 155) dX10_goMatch_155 ?_
        refine ev_iload_n (pc := 156) (i := 2) dX10_goMatch_156 rfl rfl ?_
        refine ev_aload_n (pc := 157) (i := 0) dX10_goMatch_157 rfl rfl ?_
        refine ev_get (pc := 158) (c9 := 10) (k9 := 32) dX10_goMatch_158 fl_Md_61 (by decide) hs12 (gv10_32 hs12) ?_
        refine ev_iload_n (pc := 161) (i := 3) dX10_goMatch_161 rfl rfl ?_
        obtain ⟨r21, h22, hc23, hL⟩ := cl_un hL
        refine evB_callS_I (pc := 162) (M_Md_lonely hc23) dX10_goMatch_162 mt_Md_lonely st_Md_lonely ml_Md_334 (by omega) rfl rfl (Nat.le_trans (sm_1 (cat_iV _) (sm_1 (cat_iV _) (sm_1 (cat_aV _ _) sm_z))) (by decide)) ?_
        refine ev_iadd (pc := 165) dX10_goMatch_165 ?_
        refine ev_aload_n (pc := 166) (i := 0) dX10_goMatch_166 rfl rfl ?_
        refine ev_get (pc := 167) (c9 := 10) (k9 := 32) dX10_goMatch_167 fl_Md_61 (by decide) hs12 (gv10_32 hs12) ?_
        refine ev_iload (pc := 170) dX10_goMatch_170 rfl ?_
        obtain ⟨r24, h25, hc26, hL⟩ := cl_un hL
        refine evB_callS_I (pc := 172) (M_Md_lonely hc26) dX10_goMatch_172 mt_Md_lonely st_Md_lonely ml_Md_334 (by omega) rfl rfl (Nat.le_trans (sm_1 (cat_iV _) (sm_1 (cat_iV _) (sm_1 (cat_aV _ _) sm_z))) (by decide)) ?_
        refine ev_iadd (pc := 175) dX10_goMatch_175 ?_
        obtain ⟨r27, h28, hc29, hL⟩ := cl_un hL
        refine evB_callV_V (pc := 176) (hkf _ _ hc29) dX10_goMatch_176 mt_Md_goMatch st_Md_goMatch ml_Md_453 hs12 (by decide) ⟨_, rfl, rfl⟩ (by omega) rfl rfl (Nat.le_trans sm_z (by decide)) ?_
        refine ev_aload_n (pc := 179) (i := 0) dX10_goMatch_179 rfl rfl ?_
        refine ev_get (pc := 180) (c9 := 10) (k9 := 38) dX10_goMatch_180 fl_Md_81 (by decide) hs12 (gv10_38 hs12) ?_
        refine ev_iload (pc := 183) dX10_goMatch_183 rfl ?_
        refine ev_iconst (pc := 185) dX10_goMatch_185 ?_
        obtain ⟨q30a, q30d, q30b, q30c, hL⟩ := cY_un hL
        refine ev_iast (pc := 186) dX10_goMatch_186 q30a q30d q30b q30c ?_
        refine ev_puG hL (fun h31 hL => ?_)
        refine ev_iinc (pc := 187) dX10_goMatch_187 rfl (lnl_v rfl rfl) (Nat.le_of_ble_eq_true rfl) ?_
        refine ev_goto (pc := 190) (tgt := 100) dX10_goMatch_190 rfl ?_
        exact ev_le (lvle_s (lvle_n (lvle_s (lvle_s (lvle_s lvle_z))))) (hk100 _ _ hL)
    · refine ev_iinc (pc := 187) dX10_goMatch_187 rfl (lnl_v rfl rfl) (Nat.le_of_ble_eq_true rfl) ?_
      refine ev_goto (pc := 190) (tgt := 100) dX10_goMatch_190 rfl ?_
      exact ev_le (lvle_s (lvle_n (lvle_s (lvle_s (lvle_s lvle_z))))) (hk100 _ _ hL)
  · refine ev_aload_n (pc := 193) (i := 0) dX10_goMatch_193 rfl rfl ?_
    refine ev_get (pc := 194) (c9 := 10) (k9 := 38) dX10_goMatch_194 fl_Md_81 (by decide) hs12 (gv10_38 hs12) ?_
    refine ev_iload_n (pc := 197) (i := 3) dX10_goMatch_197 rfl rfl ?_
    refine ev_bipush (pc := 198) dX10_goMatch_198 (by decide) ?_
    obtain ⟨q32a, q32d, q32b, q32c, hL⟩ := cY_un hL
    refine ev_iast (pc := 200) dX10_goMatch_200 q32a q32d q32b q32c ?_
    refine ev_puG hL (fun h33 hL => ?_)
    refine ev_aload_n (pc := 201) (i := 0) dX10_goMatch_201 rfl rfl ?_
    refine ev_iload_n (pc := 202) (i := 3) dX10_goMatch_202 rfl rfl ?_
    refine ev_iconst (pc := 203) dX10_goMatch_203 ?_
    refine ev_iadd (pc := 204) dX10_goMatch_204 ?_
    refine ev_iload_n (pc := 205) (i := 2) dX10_goMatch_205 rfl rfl ?_
    obtain ⟨r34, h35, hc36, hL⟩ := cl_un hL
    refine evB_callV_V (pc := 206) (hkf _ _ hc36) dX10_goMatch_206 mt_Md_goMatch st_Md_goMatch ml_Md_453 hs12 (by decide) ⟨_, rfl, rfl⟩ (by omega) rfl rfl (Nat.le_trans sm_z (by decide)) ?_
    refine ev_aload_n (pc := 209) (i := 0) dX10_goMatch_209 rfl rfl ?_
    refine ev_get (pc := 210) (c9 := 10) (k9 := 38) dX10_goMatch_210 fl_Md_81 (by decide) hs12 (gv10_38 hs12) ?_
    refine ev_iload_n (pc := 213) (i := 3) dX10_goMatch_213 rfl rfl ?_
    refine ev_iconst (pc := 214) dX10_goMatch_214 ?_
    obtain ⟨q37a, q37d, q37b, q37c, hL⟩ := cY_un hL
    refine ev_iast (pc := 215) dX10_goMatch_215 q37a q37d q37b q37c ?_
    refine ev_puG hL (fun h38 hL => ?_)
    exact evB_vret (pc := 216) dX10_goMatch_216 rfl hL
set_option maxHeartbeats 1000000 in
set_option maxRecDepth 100000 in
theorem KMd_goMatch_b100 {ω : Wd} {z : Nat → Prop} {d0 : Nat} {kf : Hp × Int × Int × Int → Option (Int × Hp)}  {h h' : Hp} {x0 x2 x3 x4 r : Int} (hkf : ∀ s o, kf s = some o → CtB ω N_Md_goMatch d0 [aV ω s.2.1, iV s.2.2.1, iV s.2.2.2] z s.1 none o.2) (hL : Md_goMatch_b100 kf h x0 x2 x3 x4 = some (r, h')) : EvB ω N_Md_goMatch (d0 + 2) (QB none z h') z h 100 [some (aV ω x0), none, some (iV x2), some (iV x3), some (iV x4)] [] := by
  unfold Md_goMatch_b100 at hL
  refine itr_link (P := fun (s : Hp × Int × Int × Int × Int) (o : Int × Hp) => EvB ω N_Md_goMatch (d0 + 2) (QB none z o.2) z s.1 100 [some (aV ω s.2.1), none, some (iV s.2.2.1), some (iV s.2.2.2.1), some (iV s.2.2.2.2)] []) ?_ _ _ _ hL
  intro k hk s o h9
  have h10 := KMd_goMatch_b100_body (ω := ω) (z := z) (d0 := d0) (kf := kf) (k100 := k) (h := s.1) (x0 := s.2.1) (x2 := s.2.2.1) (x3 := s.2.2.2.1) (x4 := s.2.2.2.2) (r := o.1) (h' := o.2) hkf
  exact h10 hk h9
set_option maxHeartbeats 1000000 in
set_option maxRecDepth 100000 in
theorem KMd_goMatch_b26 {ω : Wd} {z : Nat → Prop} {d0 : Nat} {kf : Hp × Int × Int × Int → Option (Int × Hp)}  {h h' : Hp} {x0 x2 x3 r : Int} (hkf : ∀ s o, kf s = some o → CtB ω N_Md_goMatch d0 [aV ω s.2.1, iV s.2.2.1, iV s.2.2.2] z s.1 none o.2) (hL : Md_goMatch_b26 kf h x0 x2 x3 = some (r, h')) : EvB ω N_Md_goMatch (d0 + 2) (QB none z h') z h 26 [some (aV ω x0), none, some (iV x2), some (iV x3), none] [] := by
  unfold Md_goMatch_b26 at hL
  refine ev_iload_n (pc := 26) (i := 3) dX10_goMatch_26 rfl rfl ?_
  refine ev_aload_n (pc := 27) (i := 0) dX10_goMatch_27 rfl rfl ?_
  obtain ⟨hs3, hL⟩ := cC_un hL
  refine ev_get (pc := 28) (c9 := 10) (k9 := 26) dX10_goMatch_28 fl_Md_294 (by decide) hs3 gv10_26 ?_
  refine ev_icmp_ne (pc := 31) (tgt := 95) dX10_goMatch_31 rfl hL rfl (fun hL => ?_) (fun hL => ?_)
  · refine ev_aload_n (pc := 34) (i := 0) dX10_goMatch_34 rfl rfl ?_
    refine ev_get (pc := 35) (c9 := 10) (k9 := 44) dX10_goMatch_35 fl_Md_447 (by decide) hs3 gv10_44 ?_
    refine ev_iconst (pc := 38) dX10_goMatch_38 ?_
    refine ev_icmp_eq (pc := 39) (tgt := 51) dX10_goMatch_39 rfl hL rfl (fun hL => ?_) (fun hL => ?_)
    · exact ev_le (lvle_s (lvle_n (lvle_s (lvle_n (lvle_n lvle_z))))) (KMd_goMatch_b51 hkf hL)
    · refine ev_iload_n (pc := 42) (i := 2) dX10_goMatch_42 rfl rfl ?_
      refine ev_aload_n (pc := 43) (i := 0) dX10_goMatch_43 rfl rfl ?_
      refine ev_get (pc := 44) (c9 := 10) (k9 := 45) dX10_goMatch_44 fl_Md_450 (by decide) hs3 gv10_45 ?_
      refine ev_icmp_ge (pc := 47) (tgt := 51) dX10_goMatch_47 rfl hL rfl (fun hL => ?_) (fun hL => ?_)
      · exact evB_vret (pc := 50) dX10_goMatch_50 rfl hL
      · exact ev_le (lvle_s (lvle_n (lvle_s (lvle_n (lvle_n lvle_z))))) (KMd_goMatch_b51 hkf hL)
  · refine ev_iload_n (pc := 95) (i := 3) dX10_goMatch_95 rfl rfl ?_
    refine ev_iconst (pc := 96) dX10_goMatch_96 ?_
    refine ev_iadd (pc := 97) dX10_goMatch_97 ?_
    refine ev_bdI hL (fun v11 hL => ?_)
    refine ev_istore (pc := 98) dX10_goMatch_98 (lnl_v rfl rfl) (Nat.le_of_ble_eq_true rfl) ?_
    exact ev_le (lvle_s (lvle_n (lvle_s (lvle_s (lvle_s lvle_z))))) (KMd_goMatch_b100 hkf hL)
set_option maxHeartbeats 1000000 in
set_option maxRecDepth 100000 in
theorem KMd_goMatch_b2_body {ω : Wd} {z : Nat → Prop} {d0 : Nat} {kf : Hp × Int × Int × Int → Option (Int × Hp)}  {k2 : Hp × Int × Int × Int → Option (Int × Hp)} {h h' : Hp} {x0 x2 x3 r : Int} (hkf : ∀ s o, kf s = some o → CtB ω N_Md_goMatch d0 [aV ω s.2.1, iV s.2.2.1, iV s.2.2.2] z s.1 none o.2) (hk2 : ∀ s o, k2 s = some o → EvB ω N_Md_goMatch (d0 + 2) (QB none z o.2) z s.1 2 [some (aV ω s.2.1), none, some (iV s.2.2.1), some (iV s.2.2.2), none] []) (hL : Md_goMatch_b2_body kf k2 h x0 x2 x3 = some (r, h')) : EvB ω N_Md_goMatch (d0 + 2) (QB none z h') z h 2 [some (aV ω x0), none, some (iV x2), some (iV x3), none] [] := by
  unfold Md_goMatch_b2_body at hL
  refine ev_iload_n (pc := 2) (i := 3) dX10_goMatch_2 rfl rfl ?_
  refine ev_aload_n (pc := 3) (i := 0) dX10_goMatch_3 rfl rfl ?_
  obtain ⟨hs1, hL⟩ := cC_un hL
  refine ev_get (pc := 4) (c9 := 10) (k9 := 26) dX10_goMatch_4 fl_Md_294 (by decide) hs1 gv10_26 ?_
  refine ev_icmp_ge (pc := 7) (tgt := 26) dX10_goMatch_7 rfl hL rfl (fun hL => ?_) (fun hL => ?_)
  · refine ev_aload_n (pc := 10) (i := 0) dX10_goMatch_10 rfl rfl ?_
    refine ev_get (pc := 11) (c9 := 10) (k9 := 38) dX10_goMatch_11 fl_Md_81 (by decide) hs1 (gv10_38 hs1) ?_
    refine ev_iload_n (pc := 14) (i := 3) dX10_goMatch_14 rfl rfl ?_
    obtain ⟨q2a, q2b, q2c, hL⟩ := cX_un hL
    refine ev_iald (pc := 15) dX10_goMatch_15 q2a q2b q2c ?_
    refine ev_iconst (pc := 16) dX10_goMatch_16 ?_
    refine ev_icmp_eq (pc := 17) (tgt := 26) dX10_goMatch_17 rfl hL rfl (fun hL => ?_) (fun hL => ?_)
    · exact ev_le (lvle_s (lvle_n (lvle_s (lvle_s (lvle_n lvle_z))))) (KMd_goMatch_b26 hkf hL)
    · refine ev_iinc (pc := 20) dX10_goMatch_20 rfl (lnl_v rfl rfl) (Nat.le_of_ble_eq_true rfl) ?_
      refine ev_goto (pc := 23) (tgt := 2) dX10_goMatch_23 rfl ?_
      exact ev_le (lvle_s (lvle_n (lvle_s (lvle_s (lvle_n lvle_z))))) (hk2 _ _ hL)
  · exact ev_le (lvle_s (lvle_n (lvle_s (lvle_s (lvle_n lvle_z))))) (KMd_goMatch_b26 hkf hL)
set_option maxHeartbeats 1000000 in
set_option maxRecDepth 100000 in
theorem KMd_goMatch_b2 {ω : Wd} {z : Nat → Prop} {d0 : Nat} {kf : Hp × Int × Int × Int → Option (Int × Hp)}  {h h' : Hp} {x0 x2 x3 r : Int} (hkf : ∀ s o, kf s = some o → CtB ω N_Md_goMatch d0 [aV ω s.2.1, iV s.2.2.1, iV s.2.2.2] z s.1 none o.2) (hL : Md_goMatch_b2 kf h x0 x2 x3 = some (r, h')) : EvB ω N_Md_goMatch (d0 + 2) (QB none z h') z h 2 [some (aV ω x0), none, some (iV x2), some (iV x3), none] [] := by
  unfold Md_goMatch_b2 at hL
  refine itr_link (P := fun (s : Hp × Int × Int × Int) (o : Int × Hp) => EvB ω N_Md_goMatch (d0 + 2) (QB none z o.2) z s.1 2 [some (aV ω s.2.1), none, some (iV s.2.2.1), some (iV s.2.2.2), none] []) ?_ _ _ _ hL
  intro k hk s o h9
  have h10 := KMd_goMatch_b2_body (ω := ω) (z := z) (d0 := d0) (kf := kf) (k2 := k) (h := s.1) (x0 := s.2.1) (x2 := s.2.2.1) (x3 := s.2.2.2) (r := o.1) (h' := o.2) hkf
  exact h10 hk h9
set_option maxHeartbeats 1000000 in
set_option maxRecDepth 100000 in
theorem MB_Md_goMatch {ω : Wd} {z : Nat → Prop} {d0 : Nat} {kf : Hp × Int × Int × Int → Option (Int × Hp)} {h h' : Hp} {a0 a1 a2 r : Int} (hkf : ∀ s o, kf s = some o → CtB ω N_Md_goMatch d0 [aV ω s.2.1, iV s.2.2.1, iV s.2.2.2] z s.1 none o.2) (hL : Md_goMatch_body kf h a0 a1 a2 = some (r, h')) : CtB ω N_Md_goMatch (d0 + 2) [aV ω a0, iV a1, iV a2] z h none h' := by
  unfold Md_goMatch_body at hL
  refine Ct_of (lv := [some (aV ω a0), some (iV a1), some (iV a2), none, none]) (by decide) (Nat.le_trans (sl_1 (cat_aV _ _) (sl_1 (cat_iV _) (sl_1 (cat_iV _) sl_z))) (Nat.le_of_ble_eq_true rfl)) (la_1 (cat_aV _ _) (la_1 (cat_iV _) (la_1 (cat_iV _) (la_n (la_n la_z))))) ?_
  refine ev_iload_n (pc := 0) (i := 1) dX10_goMatch_0 rfl rfl ?_
  refine ev_istore_n (pc := 1) (i := 3) dX10_goMatch_1 rfl (lnl_v rfl rfl) (Nat.le_of_ble_eq_true rfl) ?_
  exact ev_le (lvle_s (lvle_n (lvle_s (lvle_s (lvle_n lvle_z))))) (KMd_goMatch_b2 hkf hL)
set_option maxHeartbeats 1000000 in
set_option maxRecDepth 100000 in
theorem MR_Md_goMatch {ω : Wd} {z : Nat → Prop} : ∀ (n : Nat) (s : Hp × Int × Int × Int) (o : Int × Hp), itr (fun k s => Md_goMatch_body k s.1 s.2.1 s.2.2.1 s.2.2.2) n s = some o → CtB ω N_Md_goMatch (n * 2) [aV ω s.2.1, iV s.2.2.1, iV s.2.2.2] z s.1 none o.2 := by
  refine itr_rec (P := fun (n : Nat) (s : Hp × Int × Int × Int) (o : Int × Hp) => CtB ω N_Md_goMatch (n * 2) [aV ω s.2.1, iV s.2.2.1, iV s.2.2.2] z s.1 none o.2) (fun n k hk s o h9 => ?_)
  have := MB_Md_goMatch (ω := ω) (z := z) (h := s.1) (a0 := s.2.1) (a1 := s.2.2.1) (a2 := s.2.2.2) (r := o.1) (h' := o.2) hk h9
  rwa [show n * 2 + 2 = (n + 1) * 2 from by omega] at this
set_option maxHeartbeats 1000000 in
set_option maxRecDepth 100000 in
theorem M_Md_goMatch {ω : Wd} {z : Nat → Prop} {h h' : Hp} {a0 a1 a2 r : Int} (hL : Md_goMatch h a0 a1 a2 = some (r, h')) : CtB ω N_Md_goMatch 24 [aV ω a0, iV a1, iV a2] z h none h' := by
  unfold Md_goMatch Md_goMatch_f at hL
  exact MR_Md_goMatch RF (h, a0, a1, a2) (r, h') hL
set_option maxHeartbeats 1000000 in
set_option maxRecDepth 100000 in
theorem M_Md_pardons {ω : Wd} {z : Nat → Prop} {h h' : Hp} {a0 a1 a2 r : Int}  (hL : Md_pardons h a0 a1 a2 = some (r, h')) : CtB ω N_Md_pardons 2 [aV ω a0, iV a1, iV a2] z h none h' := by
  unfold Md_pardons at hL
  refine Ct_of (lv := [some (aV ω a0), some (iV a1), some (iV a2)]) (by decide) (Nat.le_trans (sl_1 (cat_aV _ _) (sl_1 (cat_iV _) (sl_1 (cat_iV _) sl_z))) (Nat.le_of_ble_eq_true rfl)) (la_1 (cat_aV _ _) (la_1 (cat_iV _) (la_1 (cat_iV _) la_z))) ?_
  refine ev_aload_n (pc := 0) (i := 0) dX10_pardons_0 rfl rfl ?_
  refine ev_bipush (pc := 1) dX10_pardons_1 (by decide) ?_
  refine ev_dup2 (pc := 3) dX10_pardons_3 rfl (cat_aV _ _) ?_
  obtain ⟨q1a, q1b, q1c, hL⟩ := cX_un hL
  refine ev_iald (pc := 4) dX10_pardons_4 q1a q1b q1c ?_
  refine ev_iconst (pc := 5) dX10_pardons_5 ?_
  refine ev_isub (pc := 6) dX10_pardons_6 ?_
  obtain ⟨q2a, q2d, q2b, q2c, hL⟩ := cY_un hL
  refine ev_iast (pc := 7) dX10_pardons_7 q2a q2d q2b q2c ?_
  refine ev_puG hL (fun h3 hL => ?_)
  refine ev_aload_n (pc := 8) (i := 0) dX10_pardons_8 rfl rfl ?_
  refine ev_iload_n (pc := 9) (i := 1) dX10_pardons_9 rfl rfl ?_
  refine ev_iload_n (pc := 10) (i := 2) dX10_pardons_10 rfl rfl ?_
  refine ev_iconst (pc := 11) dX10_pardons_11 ?_
  obtain ⟨r4, h5, hc6, hL⟩ := cl_un hL
  refine evB_callS_V (pc := 12) (M_Md_lays hc6) dX10_pardons_12 mt_Md_lays st_Md_lays ml_Md_318 (Nat.le_of_ble_eq_true rfl) rfl rfl (Nat.le_trans sm_z (by decide)) ?_
  exact evB_vret (pc := 15) dX10_pardons_15 rfl hL
set_option maxHeartbeats 1000000 in
set_option maxRecDepth 100000 in
theorem M_Md_sentences {ω : Wd} {z : Nat → Prop} {h h' : Hp} {a0 a1 a2 r : Int}  (hL : Md_sentences h a0 a1 a2 = some (r, h')) : CtB ω N_Md_sentences 1305 [aV ω a0, aV ω a1, iV a2] z h none h' := by
  unfold Md_sentences at hL
  refine Ct_of (lv := [some (aV ω a0), some (aV ω a1), some (iV a2), none, none]) (by decide) (Nat.le_trans (sl_1 (cat_aV _ _) (sl_1 (cat_aV _ _) (sl_1 (cat_iV _) sl_z))) (Nat.le_of_ble_eq_true rfl)) (la_1 (cat_aV _ _) (la_1 (cat_aV _ _) (la_1 (cat_iV _) (la_n (la_n la_z))))) ?_
  refine ev_aload_n (pc := 0) (i := 0) dX10_sentences_0 rfl rfl ?_
  obtain ⟨hs1, hL⟩ := cC_un hL
  refine ev_get (pc := 1) (c9 := 10) (k9 := 22) dX10_sentences_1 fl_Md_49 (by decide) hs1 (gv10_22 hs1) ?_
  refine ev_iconst (pc := 4) dX10_sentences_4 ?_
  refine ev_iload_n (pc := 5) (i := 2) dX10_sentences_5 rfl rfl ?_
  refine ev_imul (pc := 6) dX10_sentences_6 ?_
  obtain ⟨q2a, q2b, q2c, hL⟩ := cX_un hL
  refine ev_iald (pc := 7) dX10_sentences_7 q2a q2b q2c ?_
  refine ev_bdI hL (fun v3 hL => ?_)
  refine ev_istore_n (pc := 8) (i := 3) dX10_sentences_8 rfl (lnl_v rfl rfl) (Nat.le_of_ble_eq_true rfl) ?_
  refine ev_aload_n (pc := 9) (i := 0) dX10_sentences_9 rfl rfl ?_
  refine ev_get (pc := 10) (c9 := 10) (k9 := 22) dX10_sentences_10 fl_Md_49 (by decide) hs1 (gv10_22 hs1) ?_
  refine ev_iconst (pc := 13) dX10_sentences_13 ?_
  refine ev_iload_n (pc := 14) (i := 2) dX10_sentences_14 rfl rfl ?_
  refine ev_imul (pc := 15) dX10_sentences_15 ?_
  refine ev_iconst (pc := 16) dX10_sentences_16 ?_
  refine ev_iadd (pc := 17) dX10_sentences_17 ?_
  obtain ⟨q4a, q4b, q4c, hL⟩ := cX_un hL
  refine ev_iald (pc := 18) dX10_sentences_18 q4a q4b q4c ?_
  refine ev_bdI hL (fun v5 hL => ?_)
  refine ev_istore (pc := 19) dX10_sentences_19 (lnl_v rfl rfl) (Nat.le_of_ble_eq_true rfl) ?_
  refine ev_aload_n (pc := 21) (i := 1) dX10_sentences_21 rfl rfl ?_
  refine ev_iload_n (pc := 22) (i := 3) dX10_sentences_22 rfl rfl ?_
  refine ev_iload (pc := 23) dX10_sentences_23 rfl ?_
  refine ev_aload_n (pc := 25) (i := 0) dX10_sentences_25 rfl rfl ?_
  refine ev_aload_n (pc := 26) (i := 1) dX10_sentences_26 rfl rfl ?_
  refine ev_iload_n (pc := 27) (i := 3) dX10_sentences_27 rfl rfl ?_
  refine ev_iload (pc := 28) dX10_sentences_28 rfl ?_
  refine ev_aload_n (pc := 30) (i := 0) dX10_sentences_30 rfl rfl ?_
  refine ev_get (pc := 31) (c9 := 10) (k9 := 22) dX10_sentences_31 fl_Md_49 (by decide) hs1 (gv10_22 hs1) ?_
  refine ev_iconst (pc := 34) dX10_sentences_34 ?_
  refine ev_iload_n (pc := 35) (i := 2) dX10_sentences_35 rfl rfl ?_
  refine ev_imul (pc := 36) dX10_sentences_36 ?_
  refine ev_iconst (pc := 37) dX10_sentences_37 ?_
  refine ev_iadd (pc := 38) dX10_sentences_38 ?_
  obtain ⟨q6a, q6b, q6c, hL⟩ := cX_un hL
  refine ev_iald (pc := 39) dX10_sentences_39 q6a q6b q6c ?_
  obtain ⟨r7, h8, hc9, hL⟩ := cl_un hL
  refine evB_callV_I (pc := 40) (M_Md_worthNow hc9) dX10_sentences_40 mt_Md_worthNow st_Md_worthNow ml_Md_374 hs1 (by decide) ⟨_, rfl, rfl⟩ (Nat.le_of_ble_eq_true rfl) rfl rfl (Nat.le_trans (sm_1 (cat_iV _) (sm_1 (cat_iV _) (sm_1 (cat_aV _ _) sm_z))) (by decide)) ?_
  obtain ⟨r10, h11, hc12, hL⟩ := cl_un hL
  refine evB_callS_V (pc := 43) (M_Md_adds hc12) dX10_sentences_43 mt_Md_adds st_Md_adds ml_Md_347 (Nat.le_of_ble_eq_true rfl) rfl rfl (Nat.le_trans sm_z (by decide)) ?_
  refine ev_aload_n (pc := 46) (i := 1) dX10_sentences_46 rfl rfl ?_
  refine ev_bipush (pc := 47) dX10_sentences_47 (by decide) ?_
  refine ev_dup2 (pc := 49) dX10_sentences_49 rfl (cat_aV _ _) ?_
  obtain ⟨q13a, q13b, q13c, hL⟩ := cX_un hL
  refine ev_iald (pc := 50) dX10_sentences_50 q13a q13b q13c ?_
  refine ev_iconst (pc := 51) dX10_sentences_51 ?_
  refine ev_iload_n (pc := 52) (i := 2) dX10_sentences_52 rfl rfl ?_
  refine ev_ishl (pc := 53) dX10_sentences_53 ?_
  refine ev_ior (pc := 54) dX10_sentences_54 ?_
  obtain ⟨q14a, q14d, q14b, q14c, hL⟩ := cY_un hL
  refine ev_iast (pc := 55) dX10_sentences_55 q14a q14d q14b q14c ?_
  refine ev_puG hL (fun h15 hL => ?_)
  exact evB_vret (pc := 56) dX10_sentences_56 rfl hL
set_option maxHeartbeats 1000000 in
set_option maxRecDepth 100000 in
theorem M_Md_goStep {ω : Wd} {z : Nat → Prop} {h h' : Hp} {a0 a1 a2 r : Int}  (hL : Md_goStep h a0 a1 a2 = some (r, h')) : CtB ω N_Md_goStep 1306 [aV ω a0, aV ω a1, iV a2] z h none h' := by
  unfold Md_goStep at hL
  refine Ct_of (lv := [some (aV ω a0), some (aV ω a1), some (iV a2), none, none]) (by decide) (Nat.le_trans (sl_1 (cat_aV _ _) (sl_1 (cat_aV _ _) (sl_1 (cat_iV _) sl_z))) (Nat.le_of_ble_eq_true rfl)) (la_1 (cat_aV _ _) (la_1 (cat_aV _ _) (la_1 (cat_iV _) (la_n (la_n la_z))))) ?_
  refine ev_aload_n (pc := 0) (i := 0) dX10_goStep_0 rfl rfl ?_
  obtain ⟨hs1, hL⟩ := cC_un hL
  refine ev_get (pc := 1) (c9 := 10) (k9 := 24) dX10_goStep_1 fl_Md_55 (by decide) hs1 (gv10_24 hs1) ?_
  refine ev_iload_n (pc := 4) (i := 2) dX10_goStep_4 rfl rfl ?_
  refine ev_iconst (pc := 5) dX10_goStep_5 ?_
  refine ev_iadd (pc := 6) dX10_goStep_6 ?_
  obtain ⟨q2a, q2b, q2c, hL⟩ := cX_un hL
  refine ev_iald (pc := 7) dX10_goStep_7 q2a q2b q2c ?_
  refine ev_bdI hL (fun v3 hL => ?_)
  refine ev_istore_n (pc := 8) (i := 3) dX10_goStep_8 rfl (lnl_v rfl rfl) (Nat.le_of_ble_eq_true rfl) ?_
  refine ev_aload_n (pc := 9) (i := 0) dX10_goStep_9 rfl rfl ?_
  refine ev_get (pc := 10) (c9 := 10) (k9 := 24) dX10_goStep_10 fl_Md_55 (by decide) hs1 (gv10_24 hs1) ?_
  refine ev_iload_n (pc := 13) (i := 2) dX10_goStep_13 rfl rfl ?_
  obtain ⟨q4a, q4b, q4c, hL⟩ := cX_un hL
  refine ev_iald (pc := 14) dX10_goStep_14 q4a q4b q4c ?_
  rcases ite_un hL with ⟨hx, hL⟩ | ⟨hx8, hL⟩
  · refine evB_tswIn (pc := 15) (tgt := 40) dX10_goStep_15 hx (by decide) (by decide) rfl rfl ?_
    refine ev_aload_n (pc := 40) (i := 0) dX10_goStep_40 rfl rfl ?_
    refine ev_aload_n (pc := 41) (i := 1) dX10_goStep_41 rfl rfl ?_
    refine ev_iload_n (pc := 42) (i := 3) dX10_goStep_42 rfl rfl ?_
    obtain ⟨r5, h6, hc7, hL⟩ := cl_un hL
    refine evB_callV_V (pc := 43) (M_Md_sentences hc7) dX10_goStep_43 mt_Md_sentences st_Md_sentences ml_Md_387 hs1 (by decide) ⟨_, rfl, rfl⟩ (Nat.le_of_ble_eq_true rfl) rfl rfl (Nat.le_trans sm_z (by decide)) ?_
    refine ev_goto (pc := 46) (tgt := 89) dX10_goStep_46 rfl ?_
    exact evB_vret (pc := 89) dX10_goStep_89 rfl hL
  · rcases ite_un hL with ⟨hx, hL⟩ | ⟨hx12, hL⟩
    · refine evB_tswIn (pc := 15) (tgt := 49) dX10_goStep_15 hx (by decide) (by decide) rfl rfl ?_
      refine ev_aload_n (pc := 49) (i := 0) dX10_goStep_49 rfl rfl ?_
      refine ev_aload_n (pc := 50) (i := 1) dX10_goStep_50 rfl rfl ?_
      refine ev_iconst (pc := 51) dX10_goStep_51 ?_
      obtain ⟨r9, h10, hc11, hL⟩ := cl_un hL
      refine evB_callV_I (pc := 52) (M_Md_goEvening hc11) dX10_goStep_52 mt_Md_goEvening st_Md_goEvening ml_Md_390 hs1 (by decide) ⟨_, rfl, rfl⟩ (Nat.le_of_ble_eq_true rfl) rfl rfl (Nat.le_trans sm_z (by decide)) ?_
      refine ev_istore (pc := 55) dX10_goStep_55 (lnl_v rfl rfl) (Nat.le_of_ble_eq_true rfl) ?_
      refine ev_goto (pc := 57) (tgt := 89) dX10_goStep_57 rfl ?_
      exact evB_vret (pc := 89) dX10_goStep_89 rfl hL
    · rcases ite_un hL with ⟨hx, hL⟩ | ⟨hx17, hL⟩
      · refine evB_tswIn (pc := 15) (tgt := 60) dX10_goStep_15 hx (by decide) (by decide) rfl rfl ?_
        refine ev_aload_n (pc := 60) (i := 1) dX10_goStep_60 rfl rfl ?_
        refine ev_iload_n (pc := 61) (i := 3) dX10_goStep_61 rfl rfl ?_
        refine ev_aload_n (pc := 62) (i := 0) dX10_goStep_62 rfl rfl ?_
        refine ev_get (pc := 63) (c9 := 10) (k9 := 24) dX10_goStep_63 fl_Md_55 (by decide) hs1 (gv10_24 hs1) ?_
        refine ev_iload_n (pc := 66) (i := 2) dX10_goStep_66 rfl rfl ?_
        refine ev_iconst (pc := 67) dX10_goStep_67 ?_
        refine ev_iadd (pc := 68) dX10_goStep_68 ?_
        obtain ⟨q13a, q13b, q13c, hL⟩ := cX_un hL
        refine ev_iald (pc := 69) dX10_goStep_69 q13a q13b q13c ?_
        obtain ⟨r14, h15, hc16, hL⟩ := cl_un hL
        refine evB_callS_V (pc := 70) (M_Md_appeals hc16) dX10_goStep_70 mt_Md_appeals st_Md_appeals ml_Md_400 (Nat.le_of_ble_eq_true rfl) rfl rfl (Nat.le_trans sm_z (by decide)) ?_
        refine ev_goto (pc := 73) (tgt := 89) dX10_goStep_73 rfl ?_
        exact evB_vret (pc := 89) dX10_goStep_89 rfl hL
      · refine evB_tswOut (pc := 15) (tgt := 76) dX10_goStep_15 (by omega) rfl ?_
        refine ev_aload_n (pc := 76) (i := 1) dX10_goStep_76 rfl rfl ?_
        refine ev_iload_n (pc := 77) (i := 3) dX10_goStep_77 rfl rfl ?_
        refine ev_aload_n (pc := 78) (i := 0) dX10_goStep_78 rfl rfl ?_
        refine ev_get (pc := 79) (c9 := 10) (k9 := 24) dX10_goStep_79 fl_Md_55 (by decide) hs1 (gv10_24 hs1) ?_
        refine ev_iload_n (pc := 82) (i := 2) dX10_goStep_82 rfl rfl ?_
        refine ev_iconst (pc := 83) dX10_goStep_83 ?_
        refine ev_iadd (pc := 84) dX10_goStep_84 ?_
        obtain ⟨q18a, q18b, q18c, hL⟩ := cX_un hL
        refine ev_iald (pc := 85) dX10_goStep_85 q18a q18b q18c ?_
        obtain ⟨r19, h20, hc21, hL⟩ := cl_un hL
        refine evB_callS_V (pc := 86) (M_Md_pardons hc21) dX10_goStep_86 mt_Md_pardons st_Md_pardons ml_Md_407 (Nat.le_of_ble_eq_true rfl) rfl rfl (Nat.le_trans sm_z (by decide)) ?_
        exact evB_vret (pc := 89) dX10_goStep_89 rfl hL
set_option maxHeartbeats 1000000 in
set_option maxRecDepth 100000 in
theorem KMd_graves_b25_body {ω : Wd} {z : Nat → Prop}  {k25 : Hp × Int × Int × Int × Int × Int → Option (Int × Hp)} {h h' : Hp} {x0 x1 x2 x3 x4 r : Int}  (hk25 : ∀ s o, k25 s = some o → EvB ω N_Md_graves 1306 (QB (some (iV o.1)) z o.2) z s.1 25 [some (aV ω s.2.1), some (iV s.2.2.1), some (iV s.2.2.2.1), some (iV s.2.2.2.2.1), some (iV s.2.2.2.2.2)] []) (hL : Md_graves_b25_body  k25 h x0 x1 x2 x3 x4 = some (r, h')) : EvB ω N_Md_graves 1306 (QB (some (iV r)) z h') z h 25 [some (aV ω x0), some (iV x1), some (iV x2), some (iV x3), some (iV x4)] [] := by
  unfold Md_graves_b25_body at hL
  refine ev_iload (pc := 25) dX10_graves_25 rfl ?_
  refine ev_bipush (pc := 27) dX10_graves_27 (by decide) ?_
  refine ev_icmp_gt (pc := 29) (tgt := 62) dX10_graves_29 rfl hL rfl (fun hL => ?_) (fun hL => ?_)
  · refine ev_iload_n (pc := 62) (i := 2) dX10_graves_62 rfl rfl ?_
    refine ev_iconst (pc := 63) dX10_graves_63 ?_
    refine ev_icmp_ne (pc := 64) (tgt := 71) dX10_graves_64 rfl hL rfl (fun hL => ?_) (fun hL => ?_)
    · refine ev_iload_n (pc := 67) (i := 3) dX10_graves_67 rfl rfl ?_
      refine ev_goto (pc := 68) (tgt := 72) dX10_graves_68 rfl ?_
      exact evB_iret (pc := 72) dX10_graves_72 rfl hL
    · refine ev_iconst (pc := 71) dX10_graves_71 ?_
      exact evB_iret (pc := 72) dX10_graves_72 rfl hL
  · refine ev_aload_n (pc := 32) (i := 0) dX10_graves_32 rfl rfl ?_
    refine ev_iload_n (pc := 33) (i := 1) dX10_graves_33 rfl rfl ?_
    refine ev_iload (pc := 34) dX10_graves_34 rfl ?_
    obtain ⟨hs6, hL⟩ := cC_un hL
    obtain ⟨r7, h8, hc9, hL⟩ := cl_un hL
    refine evB_callV_I (pc := 36) (M_Md_isGrave hc9) dX10_graves_36 mt_Md_isGrave st_Md_isGrave ml_Md_481 hs6 (by decide) ⟨_, rfl, rfl⟩ (Nat.le_of_ble_eq_true rfl) rfl rfl (Nat.le_trans sm_z (by decide)) ?_
    refine ev_if_ne (pc := 39) (tgt := 45) dX10_graves_39 rfl hL rfl (fun hL => ?_) (fun hL => ?_)
    · refine ev_goto (pc := 42) (tgt := 56) dX10_graves_42 rfl ?_
      refine ev_iinc (pc := 56) dX10_graves_56 rfl (lnl_v rfl rfl) (Nat.le_of_ble_eq_true rfl) ?_
      refine ev_goto (pc := 59) (tgt := 25) dX10_graves_59 rfl ?_
      exact ev_le (lvle_s (lvle_s (lvle_s (lvle_s (lvle_s lvle_z))))) (hk25 _ _ hL)
    · refine ev_iload_n (pc := 45) (i := 3) dX10_graves_45 rfl rfl ?_
      refine ev_iload_n (pc := 46) (i := 2) dX10_graves_46 rfl rfl ?_
      refine ev_icmp_ne (pc := 47) (tgt := 53) dX10_graves_47 rfl hL rfl (fun hL => ?_) (fun hL => ?_)
      · refine ev_iload (pc := 50) dX10_graves_50 rfl ?_
        exact evB_iret (pc := 52) dX10_graves_52 rfl hL
      · refine ev_iinc (pc := 53) dX10_graves_53 rfl (lnl_v rfl rfl) (Nat.le_of_ble_eq_true rfl) ?_
        refine ev_iinc (pc := 56) dX10_graves_56 rfl (lnl_v rfl rfl) (Nat.le_of_ble_eq_true rfl) ?_
        refine ev_goto (pc := 59) (tgt := 25) dX10_graves_59 rfl ?_
        exact ev_le (lvle_s (lvle_s (lvle_s (lvle_s (lvle_s lvle_z))))) (hk25 _ _ hL)
set_option maxHeartbeats 1000000 in
set_option maxRecDepth 100000 in
theorem KMd_graves_b25 {ω : Wd} {z : Nat → Prop}  {h h' : Hp} {x0 x1 x2 x3 x4 r : Int}  (hL : Md_graves_b25 h x0 x1 x2 x3 x4 = some (r, h')) : EvB ω N_Md_graves 1306 (QB (some (iV r)) z h') z h 25 [some (aV ω x0), some (iV x1), some (iV x2), some (iV x3), some (iV x4)] [] := by
  unfold Md_graves_b25 at hL
  refine itr_link (P := fun (s : Hp × Int × Int × Int × Int × Int) (o : Int × Hp) => EvB ω N_Md_graves 1306 (QB (some (iV o.1)) z o.2) z s.1 25 [some (aV ω s.2.1), some (iV s.2.2.1), some (iV s.2.2.2.1), some (iV s.2.2.2.2.1), some (iV s.2.2.2.2.2)] []) ?_ _ _ _ hL
  intro k hk s o h9
  have h10 := KMd_graves_b25_body (ω := ω) (z := z) (k25 := k) (h := s.1) (x0 := s.2.1) (x1 := s.2.2.1) (x2 := s.2.2.2.1) (x3 := s.2.2.2.2.1) (x4 := s.2.2.2.2.2) (r := o.1) (h' := o.2) 
  exact h10 hk h9
set_option maxHeartbeats 1000000 in
set_option maxRecDepth 100000 in
theorem M_Md_graves {ω : Wd} {z : Nat → Prop} {h h' : Hp} {a0 a1 a2 r : Int}  (hL : Md_graves h a0 a1 a2 = some (r, h')) : CtB ω N_Md_graves 1306 [aV ω a0, iV a1, iV a2] z h (some (iV r)) h' := by
  unfold Md_graves at hL
  refine Ct_of (lv := [some (aV ω a0), some (iV a1), some (iV a2), none, none]) (by decide) (Nat.le_trans (sl_1 (cat_aV _ _) (sl_1 (cat_iV _) (sl_1 (cat_iV _) sl_z))) (Nat.le_of_ble_eq_true rfl)) (la_1 (cat_aV _ _) (la_1 (cat_iV _) (la_1 (cat_iV _) (la_n (la_n la_z))))) ?_
  refine ev_aload_n (pc := 0) (i := 0) dX10_graves_0 rfl rfl ?_
  refine ev_iconst (pc := 1) dX10_graves_1 ?_
  obtain ⟨hs1, hL⟩ := cC_un hL
  refine evB_putI (pc := 2) (c9 := 10) (k9 := 0) (kI := 0) dX10_graves_2 fl_Md_96 hs1 (by decide) (fun q hq => by cases hq; rfl) rfl rfl rfl ?_
  refine ev_puG hL (fun h2 hL => ?_)
  refine ev_aload_n (pc := 5) (i := 0) dX10_graves_5 rfl rfl ?_
  refine ev_iload_n (pc := 6) (i := 1) dX10_graves_6 rfl rfl ?_
  obtain ⟨r3, h4, hc5, hL⟩ := cl_un hL
  refine evB_callV_I (pc := 7) (M_Md_isWrong hc5) dX10_graves_7 mt_Md_isWrong st_Md_isWrong ml_Md_369 hs1 (by decide) ⟨_, rfl, rfl⟩ (Nat.le_of_ble_eq_true rfl) rfl rfl (Nat.le_trans sm_z (by decide)) ?_
  refine ev_if_eq (pc := 10) (tgt := 18) dX10_graves_10 rfl hL rfl (fun hL => ?_) (fun hL => ?_)
  · refine ev_iconst (pc := 18) dX10_graves_18 ?_
    exact evB_iret (pc := 19) dX10_graves_19 rfl hL
  · refine ev_iload_n (pc := 13) (i := 2) dX10_graves_13 rfl rfl ?_
    refine ev_iconst (pc := 14) dX10_graves_14 ?_
    refine ev_icmp_ge (pc := 15) (tgt := 20) dX10_graves_15 rfl hL rfl (fun hL => ?_) (fun hL => ?_)
    · refine ev_iconst (pc := 18) dX10_graves_18 ?_
      exact evB_iret (pc := 19) dX10_graves_19 rfl hL
    · refine ev_iconst (pc := 20) dX10_graves_20 ?_
      refine ev_istore_n (pc := 21) (i := 3) dX10_graves_21 rfl (lnl_v rfl rfl) (Nat.le_of_ble_eq_true rfl) ?_
      refine ev_iconst (pc := 22) dX10_graves_22 ?_
      refine ev_istore (pc := 23) dX10_graves_23 (lnl_v rfl rfl) (Nat.le_of_ble_eq_true rfl) ?_
      exact ev_le (lvle_s (lvle_s (lvle_s (lvle_s (lvle_s lvle_z))))) (KMd_graves_b25  hL)
set_option maxHeartbeats 1000000 in
set_option maxRecDepth 100000 in
theorem KMd_image_b16_body {ω : Wd} {z : Nat → Prop}  {k16 : Hp × Int × Int → Option (Int × Hp)} {h h' : Hp} {x0 x1 r : Int}  (hk16 : ∀ s o, k16 s = some o → EvB ω N_Md_image 1 (QB (some (iV o.1)) z o.2) z s.1 16 [some (aV ω s.2.1), some (iV s.2.2)] []) (hL : Md_image_b16_body  k16 h x0 x1 = some (r, h')) : EvB ω N_Md_image 1 (QB (some (iV r)) z h') z h 16 [some (aV ω x0), some (iV x1)] [] := by
  unfold Md_image_b16_body at hL
  refine ev_iload_n (pc := 16) (i := 1) dX10_image_16 rfl rfl ?_
  refine ev_sipush (pc := 17) dX10_image_17 (by decide) ?_
  refine ev_icmp_ge (pc := 20) (tgt := 41) dX10_image_20 rfl hL rfl (fun hL => ?_) (fun hL => ?_)
  · refine ev_aload_n (pc := 23) (i := 0) dX10_image_23 rfl rfl ?_
    obtain ⟨hs3, hL⟩ := cC_un hL
    refine ev_get (pc := 24) (c9 := 10) (k9 := 52) dX10_image_24 fl_Md_93 (by decide) hs3 (gv10_52 hs3) ?_
    refine ev_iload_n (pc := 27) (i := 1) dX10_image_27 rfl rfl ?_
    refine ev_aload_n (pc := 28) (i := 0) dX10_image_28 rfl rfl ?_
    refine ev_get (pc := 29) (c9 := 10) (k9 := 32) dX10_image_29 fl_Md_61 (by decide) hs3 (gv10_32 hs3) ?_
    refine ev_iload_n (pc := 32) (i := 1) dX10_image_32 rfl rfl ?_
    obtain ⟨q4a, q4b, q4c, hL⟩ := cX_un hL
    refine ev_iald (pc := 33) dX10_image_33 q4a q4b q4c ?_
    obtain ⟨q5a, q5d, q5b, q5c, hL⟩ := cY_un hL
    refine ev_iast (pc := 34) dX10_image_34 q5a q5d q5b q5c ?_
    refine ev_puG hL (fun h6 hL => ?_)
    refine ev_iinc (pc := 35) dX10_image_35 rfl (lnl_v (cat_aV _ _) rfl) (Nat.le_of_ble_eq_true rfl) ?_
    refine ev_goto (pc := 38) (tgt := 16) dX10_image_38 rfl ?_
    exact ev_le (lvle_s (lvle_s lvle_z)) (hk16 _ _ hL)
  · refine ev_aload_n (pc := 41) (i := 0) dX10_image_41 rfl rfl ?_
    refine ev_iconst (pc := 42) dX10_image_42 ?_
    obtain ⟨hs7, hL⟩ := cC_un hL
    refine evB_putZ (pc := 43) (c9 := 10) (k9 := 53) (kI := 53) dX10_image_43 fl_Md_306 hs7 (by decide) (fun q hq => by cases hq; rfl) rfl rfl (by decide) rfl ?_
    refine ev_puG hL (fun h8 hL => ?_)
    refine ev_aload_n (pc := 46) (i := 0) dX10_image_46 rfl rfl ?_
    refine ev_get (pc := 47) (c9 := 10) (k9 := 32) dX10_image_47 fl_Md_61 (by decide) hs7 (gv10_32 hs7) ?_
    refine ev_bipush (pc := 50) dX10_image_50 (by decide) ?_
    obtain ⟨q9a, q9b, q9c, hL⟩ := cX_un hL
    refine ev_iald (pc := 52) dX10_image_52 q9a q9b q9c ?_
    exact evB_iret (pc := 53) dX10_image_53 rfl hL
set_option maxHeartbeats 1000000 in
set_option maxRecDepth 100000 in
theorem KMd_image_b16 {ω : Wd} {z : Nat → Prop}  {h h' : Hp} {x0 x1 r : Int}  (hL : Md_image_b16 h x0 x1 = some (r, h')) : EvB ω N_Md_image 1 (QB (some (iV r)) z h') z h 16 [some (aV ω x0), some (iV x1)] [] := by
  unfold Md_image_b16 at hL
  refine itr_link (P := fun (s : Hp × Int × Int) (o : Int × Hp) => EvB ω N_Md_image 1 (QB (some (iV o.1)) z o.2) z s.1 16 [some (aV ω s.2.1), some (iV s.2.2)] []) ?_ _ _ _ hL
  intro k hk s o h9
  have h10 := KMd_image_b16_body (ω := ω) (z := z) (k16 := k) (h := s.1) (x0 := s.2.1) (x1 := s.2.2) (r := o.1) (h' := o.2) 
  exact h10 hk h9
set_option maxHeartbeats 1000000 in
set_option maxRecDepth 100000 in
theorem M_Md_image {ω : Wd} {z : Nat → Prop} {h h' : Hp} {a0 r : Int}  (hL : Md_image h a0 = some (r, h')) : CtB ω N_Md_image 1 [aV ω a0] z h (some (iV r)) h' := by
  unfold Md_image at hL
  refine Ct_of (lv := [some (aV ω a0), none]) (by decide) (Nat.le_trans (sl_1 (cat_aV _ _) sl_z) (Nat.le_of_ble_eq_true rfl)) (la_1 (cat_aV _ _) (la_n la_z)) ?_
  refine ev_aload_n (pc := 0) (i := 0) dX10_image_0 rfl rfl ?_
  refine ev_iconst (pc := 1) dX10_image_1 ?_
  obtain ⟨hs1, hL⟩ := cC_un hL
  refine evB_putI (pc := 2) (c9 := 10) (k9 := 0) (kI := 0) dX10_image_2 fl_Md_96 hs1 (by decide) (fun q hq => by cases hq; rfl) rfl rfl rfl ?_
  refine ev_puG hL (fun h2 hL => ?_)
  refine ev_aload_n (pc := 5) (i := 0) dX10_image_5 rfl rfl ?_
  refine ev_get (pc := 6) (c9 := 10) (k9 := 26) dX10_image_6 fl_Md_294 (by decide) hs1 gv10_26 ?_
  refine ev_if_ne (pc := 9) (tgt := 14) dX10_image_9 rfl hL rfl (fun hL => ?_) (fun hL => ?_)
  · refine ev_iconst (pc := 12) dX10_image_12 ?_
    exact evB_iret (pc := 13) dX10_image_13 rfl hL
  · refine ev_iconst (pc := 14) dX10_image_14 ?_
    refine ev_istore_n (pc := 15) (i := 1) dX10_image_15 rfl (lnl_v (cat_aV _ _) rfl) (Nat.le_of_ble_eq_true rfl) ?_
    exact ev_le (lvle_s (lvle_s lvle_z)) (KMd_image_b16  hL)
set_option maxHeartbeats 1000000 in
set_option maxRecDepth 100000 in
theorem M_Md_isPlan {ω : Wd} {z : Nat → Prop} {h h' : Hp} {a0 a1 r : Int}  (hL : Md_isPlan h a0 a1 = some (r, h')) : CtB ω N_Md_isPlan 1 [aV ω a0, iV a1] z h (some (iV r)) h' := by
  unfold Md_isPlan at hL
  refine Ct_of (lv := [some (aV ω a0), some (iV a1)]) (by decide) (Nat.le_trans (sl_1 (cat_aV _ _) (sl_1 (cat_iV _) sl_z)) (Nat.le_of_ble_eq_true rfl)) (la_1 (cat_aV _ _) (la_1 (cat_iV _) la_z)) ?_
  refine ev_iload_n (pc := 0) (i := 1) dX10_isPlan_0 rfl rfl ?_
  refine ev_if_lt (pc := 1) (tgt := 16) dX10_isPlan_1 rfl hL rfl (fun hL => ?_) (fun hL => ?_)
  · refine ev_iconst (pc := 16) dX10_isPlan_16 ?_
    exact evB_zret (pc := 17) dX10_isPlan_17 rfl rfl hL
  · refine ev_iload_n (pc := 4) (i := 1) dX10_isPlan_4 rfl rfl ?_
    refine ev_aload_n (pc := 5) (i := 0) dX10_isPlan_5 rfl rfl ?_
    obtain ⟨hs1, hL⟩ := cC_un hL
    refine ev_get (pc := 6) (c9 := 10) (k9 := 30) dX10_isPlan_6 fl_Md_289 (by decide) hs1 gv10_30 ?_
    refine ev_icmp_ge (pc := 9) (tgt := 16) dX10_isPlan_9 rfl hL rfl (fun hL => ?_) (fun hL => ?_)
    · refine ev_iconst (pc := 12) dX10_isPlan_12 ?_
      refine ev_goto (pc := 13) (tgt := 17) dX10_isPlan_13 rfl ?_
      exact evB_zret (pc := 17) dX10_isPlan_17 rfl rfl hL
    · refine ev_iconst (pc := 16) dX10_isPlan_16 ?_
      exact evB_zret (pc := 17) dX10_isPlan_17 rfl rfl hL
set_option maxHeartbeats 1000000 in
set_option maxRecDepth 100000 in
theorem KMd_law_b28 {ω : Wd} {z : Nat → Prop}  {h h' : Hp} {x0 x1 r : Int}  (hL : Md_law_b28 h x0 x1 = some (r, h')) : EvB ω N_Md_law 2 (QB (some (iV r)) z h') z h 28 [some (aV ω x0), some (iV x1)] [] := by
  unfold Md_law_b28 at hL
  refine ev_aload_n (pc := 28) (i := 0) dX10_law_28 rfl rfl ?_
  refine ev_iload_n (pc := 29) (i := 1) dX10_law_29 rfl rfl ?_
  obtain ⟨hs3, hL⟩ := cC_un hL
  refine evB_putI (pc := 30) (c9 := 10) (k9 := 34) (kI := 34) dX10_law_30 fl_Md_67 hs3 (by decide) (fun q hq => by cases hq; rfl) rfl rfl rfl ?_
  refine ev_puG hL (fun h4 hL => ?_)
  refine ev_iconst (pc := 33) dX10_law_33 ?_
  exact evB_zret (pc := 34) dX10_law_34 rfl rfl hL
set_option maxHeartbeats 1000000 in
set_option maxRecDepth 100000 in
theorem M_Md_law {ω : Wd} {z : Nat → Prop} {h h' : Hp} {a0 a1 r : Int}  (hL : Md_law h a0 a1 = some (r, h')) : CtB ω N_Md_law 2 [aV ω a0, iV a1] z h (some (iV r)) h' := by
  unfold Md_law at hL
  refine Ct_of (lv := [some (aV ω a0), some (iV a1)]) (by decide) (Nat.le_trans (sl_1 (cat_aV _ _) (sl_1 (cat_iV _) sl_z)) (Nat.le_of_ble_eq_true rfl)) (la_1 (cat_aV _ _) (la_1 (cat_iV _) la_z)) ?_
  refine ev_aload_n (pc := 0) (i := 0) dX10_law_0 rfl rfl ?_
  refine ev_iconst (pc := 1) dX10_law_1 ?_
  obtain ⟨hs1, hL⟩ := cC_un hL
  refine evB_putI (pc := 2) (c9 := 10) (k9 := 0) (kI := 0) dX10_law_2 fl_Md_96 hs1 (by decide) (fun q hq => by cases hq; rfl) rfl rfl rfl ?_
  refine ev_puG hL (fun h2 hL => ?_)
  refine ev_iload_n (pc := 5) (i := 1) dX10_law_5 rfl rfl ?_
  refine ev_iconst (pc := 6) dX10_law_6 ?_
  refine ev_icmp_eq (pc := 7) (tgt := 28) dX10_law_7 rfl hL rfl (fun hL => ?_) (fun hL => ?_)
  · exact ev_le (lvle_s (lvle_s lvle_z)) (KMd_law_b28  hL)
  · refine ev_iload_n (pc := 10) (i := 1) dX10_law_10 rfl rfl ?_
    refine ev_i2l (pc := 11) dX10_law_11 ?_
    refine ev_lconst (pc := 12) (x := 0) dX10_law_12 rfl ?_
    refine ev_aload_n (pc := 13) (i := 0) dX10_law_13 rfl rfl ?_
    refine ev_get (pc := 14) (c9 := 10) (k9 := 7) dX10_law_14 fl_Md_286 (by decide) hs1 gv10_7 ?_
    refine ev_iconst (pc := 17) dX10_law_17 ?_
    refine ev_isub (pc := 18) dX10_law_18 ?_
    refine ev_i2l (pc := 19) dX10_law_19 ?_
    obtain ⟨r5, h6, hc7, hL⟩ := cl_un hL
    refine evB_callS_I (pc := 20) (M_Md_isIn hc7) dX10_law_20 mt_Md_isIn st_Md_isIn ml_Md_217 (Nat.le_of_ble_eq_true rfl) rfl rfl (Nat.le_trans sm_z (by decide)) ?_
    refine ev_if_ne (pc := 23) (tgt := 28) dX10_law_23 rfl hL rfl (fun hL => ?_) (fun hL => ?_)
    · refine ev_iconst (pc := 26) dX10_law_26 ?_
      exact evB_zret (pc := 27) dX10_law_27 rfl rfl hL
    · exact ev_le (lvle_s (lvle_s lvle_z)) (KMd_law_b28  hL)
set_option maxHeartbeats 1000000 in
set_option maxRecDepth 100000 in
theorem M_Md_log {ω : Wd} {z : Nat → Prop} {h h' : Hp} {a0 a1 a2 r : Int}  (hL : Md_log h a0 a1 a2 = some (r, h')) : CtB ω N_Md_log 2 [aV ω a0, iV a1, iV a2] z h (some (iV r)) h' := by
  unfold Md_log at hL
  refine Ct_of (lv := [some (aV ω a0), some (iV a1), some (iV a2)]) (by decide) (Nat.le_trans (sl_1 (cat_aV _ _) (sl_1 (cat_iV _) (sl_1 (cat_iV _) sl_z))) (Nat.le_of_ble_eq_true rfl)) (la_1 (cat_aV _ _) (la_1 (cat_iV _) (la_1 (cat_iV _) la_z))) ?_
  refine ev_aload_n (pc := 0) (i := 0) dX10_log_0 rfl rfl ?_
  refine ev_iconst (pc := 1) dX10_log_1 ?_
  obtain ⟨hs1, hL⟩ := cC_un hL
  refine evB_putI (pc := 2) (c9 := 10) (k9 := 0) (kI := 0) dX10_log_2 fl_Md_96 hs1 (by decide) (fun q hq => by cases hq; rfl) rfl rfl rfl ?_
  refine ev_puG hL (fun h2 hL => ?_)
  refine ev_iload_n (pc := 5) (i := 1) dX10_log_5 rfl rfl ?_
  refine ev_i2l (pc := 6) dX10_log_6 ?_
  refine ev_lconst (pc := 7) (x := 0) dX10_log_7 rfl ?_
  refine ev_aload_n (pc := 8) (i := 0) dX10_log_8 rfl rfl ?_
  refine ev_get (pc := 9) (c9 := 10) (k9 := 32) dX10_log_9 fl_Md_61 (by decide) hs1 (gv10_32 hs1) ?_
  refine ev_bipush (pc := 12) dX10_log_12 (by decide) ?_
  obtain ⟨q3a, q3b, q3c, hL⟩ := cX_un hL
  refine ev_iald (pc := 14) dX10_log_14 q3a q3b q3c ?_
  refine ev_iconst (pc := 15) dX10_log_15 ?_
  refine ev_isub (pc := 16) dX10_log_16 ?_
  refine ev_i2l (pc := 17) dX10_log_17 ?_
  obtain ⟨r4, h5, hc6, hL⟩ := cl_un hL
  refine evB_callS_I (pc := 18) (M_Md_isIn hc6) dX10_log_18 mt_Md_isIn st_Md_isIn ml_Md_217 (Nat.le_of_ble_eq_true rfl) rfl rfl (Nat.le_trans sm_z (by decide)) ?_
  refine ev_if_eq (pc := 21) (tgt := 62) dX10_log_21 rfl hL rfl (fun hL => ?_) (fun hL => ?_)
  · refine ev_iconst (pc := 62) dX10_log_62 ?_
    exact evB_iret (pc := 63) dX10_log_63 rfl hL
  · refine ev_iload_n (pc := 24) (i := 2) dX10_log_24 rfl rfl ?_
    refine ev_i2l (pc := 25) dX10_log_25 ?_
    refine ev_lconst (pc := 26) (x := 0) dX10_log_26 rfl ?_
    refine ev_ldc2 (pc := 27) (x := 2) dX10_log_27 w_l_Md_275 ?_
    obtain ⟨r7, h8, hc9, hL⟩ := cl_un hL
    refine evB_callS_I (pc := 30) (M_Md_isIn hc9) dX10_log_30 mt_Md_isIn st_Md_isIn ml_Md_217 (Nat.le_of_ble_eq_true rfl) rfl rfl (Nat.le_trans sm_z (by decide)) ?_
    refine ev_if_eq (pc := 33) (tgt := 62) dX10_log_33 rfl hL rfl (fun hL => ?_) (fun hL => ?_)
    · refine ev_iconst (pc := 62) dX10_log_62 ?_
      exact evB_iret (pc := 63) dX10_log_63 rfl hL
    · refine ev_aload_n (pc := 36) (i := 0) dX10_log_36 rfl rfl ?_
      refine ev_get (pc := 37) (c9 := 10) (k9 := 32) dX10_log_37 fl_Md_61 (by decide) hs1 (gv10_32 hs1) ?_
      refine ev_bipush (pc := 40) dX10_log_40 (by decide) ?_
      refine ev_iconst (pc := 42) dX10_log_42 ?_
      refine ev_aload_n (pc := 43) (i := 0) dX10_log_43 rfl rfl ?_
      refine ev_get (pc := 44) (c9 := 10) (k9 := 32) dX10_log_44 fl_Md_61 (by decide) hs1 (gv10_32 hs1) ?_
      refine ev_bipush (pc := 47) dX10_log_47 (by decide) ?_
      obtain ⟨q10a, q10b, q10c, hL⟩ := cX_un hL
      refine ev_iald (pc := 49) dX10_log_49 q10a q10b q10c ?_
      refine ev_iconst (pc := 50) dX10_log_50 ?_
      refine ev_isub (pc := 51) dX10_log_51 ?_
      refine ev_iload_n (pc := 52) (i := 1) dX10_log_52 rfl rfl ?_
      refine ev_isub (pc := 53) dX10_log_53 ?_
      refine ev_imul (pc := 54) dX10_log_54 ?_
      refine ev_iadd (pc := 55) dX10_log_55 ?_
      refine ev_iload_n (pc := 56) (i := 2) dX10_log_56 rfl rfl ?_
      refine ev_iadd (pc := 57) dX10_log_57 ?_
      obtain ⟨q11a, q11b, q11c, hL⟩ := cX_un hL
      refine ev_iald (pc := 58) dX10_log_58 q11a q11b q11c ?_
      refine ev_goto (pc := 59) (tgt := 63) dX10_log_59 rfl ?_
      exact evB_iret (pc := 63) dX10_log_63 rfl hL
set_option maxHeartbeats 1000000 in
set_option maxRecDepth 100000 in
theorem M_Md_lunch {ω : Wd} {z : Nat → Prop} {h h' : Hp} {a0 a1 a2 r : Int}  (hL : Md_lunch h a0 a1 a2 = some (r, h')) : CtB ω N_Md_lunch 3 [aV ω a0, iV a1, iV a2] z h (some (iV r)) h' := by
  unfold Md_lunch at hL
  refine Ct_of (lv := [some (aV ω a0), some (iV a1), some (iV a2)]) (by decide) (Nat.le_trans (sl_1 (cat_aV _ _) (sl_1 (cat_iV _) (sl_1 (cat_iV _) sl_z))) (Nat.le_of_ble_eq_true rfl)) (la_1 (cat_aV _ _) (la_1 (cat_iV _) (la_1 (cat_iV _) la_z))) ?_
  refine ev_aload_n (pc := 0) (i := 0) dX10_lunch_0 rfl rfl ?_
  refine ev_iconst (pc := 1) dX10_lunch_1 ?_
  obtain ⟨hs1, hL⟩ := cC_un hL
  refine evB_putI (pc := 2) (c9 := 10) (k9 := 0) (kI := 0) dX10_lunch_2 fl_Md_96 hs1 (by decide) (fun q hq => by cases hq; rfl) rfl rfl rfl ?_
  refine ev_puG hL (fun h2 hL => ?_)
  refine ev_aload_n (pc := 5) (i := 0) dX10_lunch_5 rfl rfl ?_
  refine ev_iload_n (pc := 6) (i := 1) dX10_lunch_6 rfl rfl ?_
  refine ev_iload_n (pc := 7) (i := 2) dX10_lunch_7 rfl rfl ?_
  obtain ⟨r3, h4, hc5, hL⟩ := cl_un hL
  refine evB_callV_I (pc := 8) (M_Md_areTwo hc5) dX10_lunch_8 mt_Md_areTwo st_Md_areTwo ml_Md_393 hs1 (by decide) ⟨_, rfl, rfl⟩ (Nat.le_of_ble_eq_true rfl) rfl rfl (Nat.le_trans sm_z (by decide)) ?_
  refine ev_if_eq (pc := 11) (tgt := 45) dX10_lunch_11 rfl hL rfl (fun hL => ?_) (fun hL => ?_)
  · refine ev_iconst (pc := 45) dX10_lunch_45 ?_
    exact evB_iret (pc := 46) dX10_lunch_46 rfl hL
  · refine ev_aload_n (pc := 14) (i := 0) dX10_lunch_14 rfl rfl ?_
    refine ev_get (pc := 15) (c9 := 10) (k9 := 32) dX10_lunch_15 fl_Md_61 (by decide) hs1 (gv10_32 hs1) ?_
    refine ev_iload_n (pc := 18) (i := 1) dX10_lunch_18 rfl rfl ?_
    obtain ⟨r6, h7, hc8, hL⟩ := cl_un hL
    refine evB_callS_I (pc := 19) (M_Md_lonely hc8) dX10_lunch_19 mt_Md_lonely st_Md_lonely ml_Md_334 (Nat.le_of_ble_eq_true rfl) rfl rfl (Nat.le_trans sm_z (by decide)) ?_
    refine ev_aload_n (pc := 22) (i := 0) dX10_lunch_22 rfl rfl ?_
    refine ev_get (pc := 23) (c9 := 10) (k9 := 32) dX10_lunch_23 fl_Md_61 (by decide) hs1 (gv10_32 hs1) ?_
    refine ev_iload_n (pc := 26) (i := 2) dX10_lunch_26 rfl rfl ?_
    obtain ⟨r9, h10, hc11, hL⟩ := cl_un hL
    refine evB_callS_I (pc := 27) (M_Md_lonely hc11) dX10_lunch_27 mt_Md_lonely st_Md_lonely ml_Md_334 (Nat.le_of_ble_eq_true rfl) rfl rfl (Nat.le_trans (sm_1 (cat_iV _) sm_z) (by decide)) ?_
    refine ev_iadd (pc := 30) dX10_lunch_30 ?_
    refine ev_if_eq (pc := 31) (tgt := 45) dX10_lunch_31 rfl hL rfl (fun hL => ?_) (fun hL => ?_)
    · refine ev_iconst (pc := 45) dX10_lunch_45 ?_
      exact evB_iret (pc := 46) dX10_lunch_46 rfl hL
    · refine ev_aload_n (pc := 34) (i := 0) dX10_lunch_34 rfl rfl ?_
      refine ev_get (pc := 35) (c9 := 10) (k9 := 32) dX10_lunch_35 fl_Md_61 (by decide) hs1 (gv10_32 hs1) ?_
      refine ev_bipush (pc := 38) dX10_lunch_38 (by decide) ?_
      obtain ⟨q12a, q12b, q12c, hL⟩ := cX_un hL
      refine ev_iald (pc := 40) dX10_lunch_40 q12a q12b q12c ?_
      refine ev_iconst (pc := 41) dX10_lunch_41 ?_
      refine ev_icmp_ge (pc := 42) (tgt := 47) dX10_lunch_42 rfl hL rfl (fun hL => ?_) (fun hL => ?_)
      · refine ev_iconst (pc := 45) dX10_lunch_45 ?_
        exact evB_iret (pc := 46) dX10_lunch_46 rfl hL
      · refine ev_aload_n (pc := 47) (i := 0) dX10_lunch_47 rfl rfl ?_
        obtain ⟨r13, h14, hc15, hL⟩ := cl_un hL
        refine evB_callV_V (pc := 48) (M_Md_remember hc15) dX10_lunch_48 mt_Md_remember st_Md_remember ml_Md_384 hs1 (by decide) ⟨_, rfl, rfl⟩ (Nat.le_of_ble_eq_true rfl) rfl rfl (Nat.le_trans sm_z (by decide)) ?_
        refine ev_aload_n (pc := 51) (i := 0) dX10_lunch_51 rfl rfl ?_
        refine ev_get (pc := 52) (c9 := 10) (k9 := 32) dX10_lunch_52 fl_Md_61 (by decide) hs1 (gv10_32 hs1) ?_
        refine ev_bipush (pc := 55) dX10_lunch_55 (by decide) ?_
        refine ev_dup2 (pc := 57) dX10_lunch_57 rfl (cat_aV _ _) ?_
        obtain ⟨q16a, q16b, q16c, hL⟩ := cX_un hL
        refine ev_iald (pc := 58) dX10_lunch_58 q16a q16b q16c ?_
        refine ev_iconst (pc := 59) dX10_lunch_59 ?_
        refine ev_isub (pc := 60) dX10_lunch_60 ?_
        obtain ⟨q17a, q17d, q17b, q17c, hL⟩ := cY_un hL
        refine ev_iast (pc := 61) dX10_lunch_61 q17a q17d q17b q17c ?_
        refine ev_puG hL (fun h18 hL => ?_)
        refine ev_aload_n (pc := 62) (i := 0) dX10_lunch_62 rfl rfl ?_
        refine ev_get (pc := 63) (c9 := 10) (k9 := 32) dX10_lunch_63 fl_Md_61 (by decide) hs1 (gv10_32 hs1) ?_
        refine ev_bipush (pc := 66) dX10_lunch_66 (by decide) ?_
        refine ev_iconst (pc := 68) dX10_lunch_68 ?_
        refine ev_iload_n (pc := 69) (i := 1) dX10_lunch_69 rfl rfl ?_
        refine ev_imul (pc := 70) dX10_lunch_70 ?_
        refine ev_iadd (pc := 71) dX10_lunch_71 ?_
        refine ev_iconst (pc := 72) dX10_lunch_72 ?_
        refine ev_iadd (pc := 73) dX10_lunch_73 ?_
        refine ev_iconst (pc := 74) dX10_lunch_74 ?_
        refine ev_aload_n (pc := 75) (i := 0) dX10_lunch_75 rfl rfl ?_
        refine ev_get (pc := 76) (c9 := 10) (k9 := 32) dX10_lunch_76 fl_Md_61 (by decide) hs1 (gv10_32 hs1) ?_
        refine ev_iload_n (pc := 79) (i := 1) dX10_lunch_79 rfl rfl ?_
        obtain ⟨r19, h20, hc21, hL⟩ := cl_un hL
        refine evB_callS_I (pc := 80) (M_Md_lonely hc21) dX10_lunch_80 mt_Md_lonely st_Md_lonely ml_Md_334 (Nat.le_of_ble_eq_true rfl) rfl rfl (Nat.le_trans (sm_1 (cat_iV _) (sm_1 (cat_iV _) (sm_1 (cat_aV _ _) sm_z))) (by decide)) ?_
        refine ev_iconst (pc := 83) dX10_lunch_83 ?_
        refine ev_isub (pc := 84) dX10_lunch_84 ?_
        refine ev_max (pc := 85) dX10_lunch_85 wm_Md_332 w_s_max w_i_Math w_k_max (Nat.le_trans (sm_1 (cat_iV _) (sm_1 (cat_aV _ _) sm_z)) (by decide)) (Nat.le_of_ble_eq_true rfl) (Nat.le_refl _) (Nat.le_refl _) ?_
        obtain ⟨q22a, q22d, q22b, q22c, hL⟩ := cY_un hL
        refine ev_iast (pc := 88) dX10_lunch_88 q22a q22d q22b q22c ?_
        refine ev_puG hL (fun h23 hL => ?_)
        refine ev_aload_n (pc := 89) (i := 0) dX10_lunch_89 rfl rfl ?_
        refine ev_get (pc := 90) (c9 := 10) (k9 := 32) dX10_lunch_90 fl_Md_61 (by decide) hs1 (gv10_32 hs1) ?_
        refine ev_bipush (pc := 93) dX10_lunch_93 (by decide) ?_
        refine ev_iconst (pc := 95) dX10_lunch_95 ?_
        refine ev_iload_n (pc := 96) (i := 2) dX10_lunch_96 rfl rfl ?_
        refine ev_imul (pc := 97) dX10_lunch_97 ?_
        refine ev_iadd (pc := 98) dX10_lunch_98 ?_
        refine ev_iconst (pc := 99) dX10_lunch_99 ?_
        refine ev_iadd (pc := 100) dX10_lunch_100 ?_
        refine ev_iconst (pc := 101) dX10_lunch_101 ?_
        refine ev_aload_n (pc := 102) (i := 0) dX10_lunch_102 rfl rfl ?_
        refine ev_get (pc := 103) (c9 := 10) (k9 := 32) dX10_lunch_103 fl_Md_61 (by decide) hs1 (gv10_32 hs1) ?_
        refine ev_iload_n (pc := 106) (i := 2) dX10_lunch_106 rfl rfl ?_
        obtain ⟨r24, h25, hc26, hL⟩ := cl_un hL
        refine evB_callS_I (pc := 107) (M_Md_lonely hc26) dX10_lunch_107 mt_Md_lonely st_Md_lonely ml_Md_334 (Nat.le_of_ble_eq_true rfl) rfl rfl (Nat.le_trans (sm_1 (cat_iV _) (sm_1 (cat_iV _) (sm_1 (cat_aV _ _) sm_z))) (by decide)) ?_
        refine ev_iconst (pc := 110) dX10_lunch_110 ?_
        refine ev_isub (pc := 111) dX10_lunch_111 ?_
        refine ev_max (pc := 112) dX10_lunch_112 wm_Md_332 w_s_max w_i_Math w_k_max (Nat.le_trans (sm_1 (cat_iV _) (sm_1 (cat_aV _ _) sm_z)) (by decide)) (Nat.le_of_ble_eq_true rfl) (Nat.le_refl _) (Nat.le_refl _) ?_
        obtain ⟨q27a, q27d, q27b, q27c, hL⟩ := cY_un hL
        refine ev_iast (pc := 115) dX10_lunch_115 q27a q27d q27b q27c ?_
        refine ev_puG hL (fun h28 hL => ?_)
        refine ev_aload_n (pc := 116) (i := 0) dX10_lunch_116 rfl rfl ?_
        refine ev_get (pc := 117) (c9 := 10) (k9 := 32) dX10_lunch_117 fl_Md_61 (by decide) hs1 (gv10_32 hs1) ?_
        refine ev_iload_n (pc := 120) (i := 1) dX10_lunch_120 rfl rfl ?_
        obtain ⟨r29, h30, hc31, hL⟩ := cl_un hL
        refine evB_callS_I (pc := 121) (M_Md_lonely hc31) dX10_lunch_121 mt_Md_lonely st_Md_lonely ml_Md_334 (Nat.le_of_ble_eq_true rfl) rfl rfl (Nat.le_trans sm_z (by decide)) ?_
        exact evB_iret (pc := 124) dX10_lunch_124 rfl hL
set_option maxHeartbeats 1000000 in
set_option maxRecDepth 100000 in
theorem KMd_matched_b26_body {ω : Wd} {z : Nat → Prop}  {k26 : Hp × Int × Int × Int → Option (Int × Hp)} {h h' : Hp} {x0 x1 x2 r : Int}  (hk26 : ∀ s o, k26 s = some o → EvB ω N_Md_matched 25 (QB (some (iV o.1)) z o.2) z s.1 26 [some (aV ω s.2.1), some (iV s.2.2.1), some (iV s.2.2.2)] []) (hL : Md_matched_b26_body  k26 h x0 x1 x2 = some (r, h')) : EvB ω N_Md_matched 25 (QB (some (iV r)) z h') z h 26 [some (aV ω x0), some (iV x1), some (iV x2)] [] := by
  unfold Md_matched_b26_body at hL
  refine ev_iload_n (pc := 26) (i := 2) dX10_matched_26 rfl rfl ?_
  refine ev_bipush (pc := 27) dX10_matched_27 (by decide) ?_
  refine ev_icmp_ge (pc := 29) (tgt := 45) dX10_matched_29 rfl hL rfl (fun hL => ?_) (fun hL => ?_)
  · refine ev_aload_n (pc := 32) (i := 0) dX10_matched_32 rfl rfl ?_
    obtain ⟨hs6, hL⟩ := cC_un hL
    refine ev_get (pc := 33) (c9 := 10) (k9 := 38) dX10_matched_33 fl_Md_81 (by decide) hs6 (gv10_38 hs6) ?_
    refine ev_iload_n (pc := 36) (i := 2) dX10_matched_36 rfl rfl ?_
    refine ev_iconst (pc := 37) dX10_matched_37 ?_
    obtain ⟨q7a, q7d, q7b, q7c, hL⟩ := cY_un hL
    refine ev_iast (pc := 38) dX10_matched_38 q7a q7d q7b q7c ?_
    refine ev_puG hL (fun h8 hL => ?_)
    refine ev_iinc (pc := 39) dX10_matched_39 rfl (lnl_v rfl rfl) (Nat.le_of_ble_eq_true rfl) ?_
    refine ev_goto (pc := 42) (tgt := 26) dX10_matched_42 rfl ?_
    exact ev_le (lvle_s (lvle_s (lvle_s lvle_z))) (hk26 _ _ hL)
  · refine ev_aload_n (pc := 45) (i := 0) dX10_matched_45 rfl rfl ?_
    refine ev_iconst (pc := 46) dX10_matched_46 ?_
    obtain ⟨hs9, hL⟩ := cC_un hL
    refine evB_putI (pc := 47) (c9 := 10) (k9 := 44) (kI := 44) dX10_matched_47 fl_Md_447 hs9 (by decide) (fun q hq => by cases hq; rfl) rfl rfl rfl ?_
    refine ev_puG hL (fun h10 hL => ?_)
    refine ev_aload_n (pc := 50) (i := 0) dX10_matched_50 rfl rfl ?_
    refine ev_iconst (pc := 51) dX10_matched_51 ?_
    refine evB_putI (pc := 52) (c9 := 10) (k9 := 45) (kI := 45) dX10_matched_52 fl_Md_450 hs9 (by decide) (fun q hq => by cases hq; rfl) rfl rfl rfl ?_
    refine ev_puG hL (fun h11 hL => ?_)
    refine ev_aload_n (pc := 55) (i := 0) dX10_matched_55 rfl rfl ?_
    refine ev_iconst (pc := 56) dX10_matched_56 ?_
    refine ev_iconst (pc := 57) dX10_matched_57 ?_
    obtain ⟨r12, h13, hc14, hL⟩ := cl_un hL
    refine evB_callV_V (pc := 58) (M_Md_goMatch hc14) dX10_matched_58 mt_Md_goMatch st_Md_goMatch ml_Md_453 hs9 (by decide) ⟨_, rfl, rfl⟩ (Nat.le_of_ble_eq_true rfl) rfl rfl (Nat.le_trans sm_z (by decide)) ?_
    refine ev_iload_n (pc := 61) (i := 1) dX10_matched_61 rfl rfl ?_
    refine ev_if_ne (pc := 62) (tgt := 72) dX10_matched_62 rfl hL rfl (fun hL => ?_) (fun hL => ?_)
    · refine ev_aload_n (pc := 65) (i := 0) dX10_matched_65 rfl rfl ?_
      refine ev_get (pc := 66) (c9 := 10) (k9 := 44) dX10_matched_66 fl_Md_447 (by decide) hs9 gv10_44 ?_
      refine ev_goto (pc := 69) (tgt := 76) dX10_matched_69 rfl ?_
      exact evB_iret (pc := 76) dX10_matched_76 rfl hL
    · refine ev_aload_n (pc := 72) (i := 0) dX10_matched_72 rfl rfl ?_
      refine ev_get (pc := 73) (c9 := 10) (k9 := 45) dX10_matched_73 fl_Md_450 (by decide) hs9 gv10_45 ?_
      exact evB_iret (pc := 76) dX10_matched_76 rfl hL
set_option maxHeartbeats 1000000 in
set_option maxRecDepth 100000 in
theorem KMd_matched_b26 {ω : Wd} {z : Nat → Prop}  {h h' : Hp} {x0 x1 x2 r : Int}  (hL : Md_matched_b26 h x0 x1 x2 = some (r, h')) : EvB ω N_Md_matched 25 (QB (some (iV r)) z h') z h 26 [some (aV ω x0), some (iV x1), some (iV x2)] [] := by
  unfold Md_matched_b26 at hL
  refine itr_link (P := fun (s : Hp × Int × Int × Int) (o : Int × Hp) => EvB ω N_Md_matched 25 (QB (some (iV o.1)) z o.2) z s.1 26 [some (aV ω s.2.1), some (iV s.2.2.1), some (iV s.2.2.2)] []) ?_ _ _ _ hL
  intro k hk s o h9
  have h10 := KMd_matched_b26_body (ω := ω) (z := z) (k26 := k) (h := s.1) (x0 := s.2.1) (x1 := s.2.2.1) (x2 := s.2.2.2) (r := o.1) (h' := o.2) 
  exact h10 hk h9
set_option maxHeartbeats 1000000 in
set_option maxRecDepth 100000 in
theorem M_Md_matched {ω : Wd} {z : Nat → Prop} {h h' : Hp} {a0 a1 r : Int}  (hL : Md_matched h a0 a1 = some (r, h')) : CtB ω N_Md_matched 25 [aV ω a0, iV a1] z h (some (iV r)) h' := by
  unfold Md_matched at hL
  refine Ct_of (lv := [some (aV ω a0), some (iV a1), none]) (by decide) (Nat.le_trans (sl_1 (cat_aV _ _) (sl_1 (cat_iV _) sl_z)) (Nat.le_of_ble_eq_true rfl)) (la_1 (cat_aV _ _) (la_1 (cat_iV _) (la_n la_z))) ?_
  refine ev_aload_n (pc := 0) (i := 0) dX10_matched_0 rfl rfl ?_
  refine ev_iconst (pc := 1) dX10_matched_1 ?_
  obtain ⟨hs1, hL⟩ := cC_un hL
  refine evB_putI (pc := 2) (c9 := 10) (k9 := 0) (kI := 0) dX10_matched_2 fl_Md_96 hs1 (by decide) (fun q hq => by cases hq; rfl) rfl rfl rfl ?_
  refine ev_puG hL (fun h2 hL => ?_)
  refine ev_aload_n (pc := 5) (i := 0) dX10_matched_5 rfl rfl ?_
  refine ev_get (pc := 6) (c9 := 10) (k9 := 26) dX10_matched_6 fl_Md_294 (by decide) hs1 gv10_26 ?_
  refine ev_if_eq (pc := 9) (tgt := 22) dX10_matched_9 rfl hL rfl (fun hL => ?_) (fun hL => ?_)
  · refine ev_iconst (pc := 22) dX10_matched_22 ?_
    exact evB_iret (pc := 23) dX10_matched_23 rfl hL
  · refine ev_iload_n (pc := 12) (i := 1) dX10_matched_12 rfl rfl ?_
    refine ev_i2l (pc := 13) dX10_matched_13 ?_
    refine ev_lconst (pc := 14) (x := 0) dX10_matched_14 rfl ?_
    refine ev_lconst (pc := 15) (x := 1) dX10_matched_15 rfl ?_
    obtain ⟨r3, h4, hc5, hL⟩ := cl_un hL
    refine evB_callS_I (pc := 16) (M_Md_isIn hc5) dX10_matched_16 mt_Md_isIn st_Md_isIn ml_Md_217 (Nat.le_of_ble_eq_true rfl) rfl rfl (Nat.le_trans sm_z (by decide)) ?_
    refine ev_if_ne (pc := 19) (tgt := 24) dX10_matched_19 rfl hL rfl (fun hL => ?_) (fun hL => ?_)
    · refine ev_iconst (pc := 22) dX10_matched_22 ?_
      exact evB_iret (pc := 23) dX10_matched_23 rfl hL
    · refine ev_iconst (pc := 24) dX10_matched_24 ?_
      refine ev_istore_n (pc := 25) (i := 2) dX10_matched_25 rfl (lnl_v rfl rfl) (Nat.le_of_ble_eq_true rfl) ?_
      exact ev_le (lvle_s (lvle_s (lvle_s lvle_z))) (KMd_matched_b26  hL)
set_option maxHeartbeats 1000000 in
set_option maxRecDepth 100000 in
theorem KMd_oddsFrom_b108_body {ω : Wd} {z : Nat → Prop} {d0 : Nat} {kf : Hp × Int × Int × Int × Int × Int → Option (Int × Hp)}  {k108 : Hp × Int × Int × Int × Int × Int × Int × Int → Option (Int × Hp)} {h h' : Hp} {x0 x1 x2 x3 x5 x7 x8 r : Int} (hkf : ∀ s o, kf s = some o → CtB ω N_Md_oddsFrom d0 [aV ω s.2.1, iV s.2.2.1, iV s.2.2.2.1, iV s.2.2.2.2.1, iV s.2.2.2.2.2] z s.1 (some (iV o.1)) o.2) (hk108 : ∀ s o, k108 s = some o → EvB ω N_Md_oddsFrom (d0 + 5) (QB (some (iV o.1)) z o.2) z s.1 108 [some (aV ω s.2.1), some (iV s.2.2.1), some (iV s.2.2.2.1), some (iV s.2.2.2.2.1), none, some (iV s.2.2.2.2.2.1), none, some (iV s.2.2.2.2.2.2.1), some (iV s.2.2.2.2.2.2.2)] []) (hL : Md_oddsFrom_b108_body kf k108 h x0 x1 x2 x3 x5 x7 x8 = some (r, h')) : EvB ω N_Md_oddsFrom (d0 + 5) (QB (some (iV r)) z h') z h 108 [some (aV ω x0), some (iV x1), some (iV x2), some (iV x3), none, some (iV x5), none, some (iV x7), some (iV x8)] [] := by
  unfold Md_oddsFrom_b108_body at hL
  refine ev_iload (pc := 108) dX10_oddsFrom_108 rfl ?_
  refine ev_bipush (pc := 110) dX10_oddsFrom_110 (by decide) ?_
  refine ev_icmp_gt (pc := 112) (tgt := 140) dX10_oddsFrom_112 rfl hL rfl (fun hL => ?_) (fun hL => ?_)
  · refine ev_aload_n (pc := 140) (i := 0) dX10_oddsFrom_140 rfl rfl ?_
    refine ev_aload_n (pc := 141) (i := 0) dX10_oddsFrom_141 rfl rfl ?_
    obtain ⟨hs12, hL⟩ := cC_un hL
    refine ev_get (pc := 142) (c9 := 10) (k9 := 33) dX10_oddsFrom_142 fl_Md_64 (by decide) hs12 (gv10_33 hs12) ?_
    refine ev_iconst (pc := 145) dX10_oddsFrom_145 ?_
    refine ev_iload_n (pc := 146) (i := 1) dX10_oddsFrom_146 rfl rfl ?_
    refine ev_ishl (pc := 147) dX10_oddsFrom_147 ?_
    obtain ⟨r13, h14, hc15, hL⟩ := cl_un hL
    refine evB_callV_I (pc := 148) (M_Md_goEvening hc15) dX10_oddsFrom_148 mt_Md_goEvening st_Md_goEvening ml_Md_390 hs12 (by decide) ⟨_, rfl, rfl⟩ (by omega) rfl rfl (Nat.le_trans sm_z (by decide)) ?_
    refine ev_istore (pc := 151) dX10_oddsFrom_151 (lnl_v rfl rfl) (Nat.le_of_ble_eq_true rfl) ?_
    refine ev_iload (pc := 153) dX10_oddsFrom_153 rfl ?_
    refine ev_aload_n (pc := 155) (i := 0) dX10_oddsFrom_155 rfl rfl ?_
    refine ev_get (pc := 156) (c9 := 10) (k9 := 40) dX10_oddsFrom_156 fl_Md_344 (by decide) hs12 gv10_40 ?_
    refine ev_iload_n (pc := 159) (i := 1) dX10_oddsFrom_159 rfl rfl ?_
    obtain ⟨r16, h17, hc18, hL⟩ := cl_un hL
    refine evB_callS_I (pc := 160) (M_Md_has hc18) dX10_oddsFrom_160 mt_Md_has st_Md_has ml_Md_229 (by omega) rfl rfl (Nat.le_trans (sm_1 (cat_iV _) sm_z) (by decide)) ?_
    refine ev_if_eq (pc := 163) (tgt := 171) dX10_oddsFrom_163 rfl hL rfl (fun hL => ?_) (fun hL => ?_)
    · refine ev_aload_n (pc := 171) (i := 0) dX10_oddsFrom_171 rfl rfl ?_
      refine ev_iload_n (pc := 172) (i := 1) dX10_oddsFrom_172 rfl rfl ?_
      refine ev_iload_n (pc := 173) (i := 2) dX10_oddsFrom_173 rfl rfl ?_
      refine ev_iconst (pc := 174) dX10_oddsFrom_174 ?_
      refine ev_isub (pc := 175) dX10_oddsFrom_175 ?_
      refine ev_iload_n (pc := 176) (i := 3) dX10_oddsFrom_176 rfl rfl ?_
      refine ev_iload (pc := 177) dX10_oddsFrom_177 rfl ?_
      obtain ⟨r19, h20, hc21, hL⟩ := cl_un hL
      refine evB_callV_I (pc := 179) (hkf _ _ hc21) dX10_oddsFrom_179 mt_Md_oddsFrom st_Md_oddsFrom ml_Md_495 hs12 (by decide) ⟨_, rfl, rfl⟩ (by omega) rfl rfl (Nat.le_trans (sm_1 (cat_iV _) sm_z) (by decide)) ?_
      refine ev_iadd (pc := 182) dX10_oddsFrom_182 ?_
      exact evB_iret (pc := 183) dX10_oddsFrom_183 rfl hL
    · refine ev_iload (pc := 166) dX10_oddsFrom_166 rfl ?_
      refine ev_goto (pc := 168) (tgt := 182) dX10_oddsFrom_168 rfl ?_
      refine ev_iadd (pc := 182) dX10_oddsFrom_182 ?_
      exact evB_iret (pc := 183) dX10_oddsFrom_183 rfl hL
  · refine ev_aload_n (pc := 115) (i := 0) dX10_oddsFrom_115 rfl rfl ?_
    obtain ⟨hs22, hL⟩ := cC_un hL
    refine ev_get (pc := 116) (c9 := 10) (k9 := 33) dX10_oddsFrom_116 fl_Md_64 (by decide) hs22 (gv10_33 hs22) ?_
    refine ev_iload (pc := 119) dX10_oddsFrom_119 rfl ?_
    refine ev_aload_n (pc := 121) (i := 0) dX10_oddsFrom_121 rfl rfl ?_
    refine ev_get (pc := 122) (c9 := 10) (k9 := 51) dX10_oddsFrom_122 fl_Md_90 (by decide) hs22 (gv10_51 hs22) ?_
    refine ev_bipush (pc := 125) dX10_oddsFrom_125 (by decide) ?_
    refine ev_iload_n (pc := 127) (i := 2) dX10_oddsFrom_127 rfl rfl ?_
    refine ev_imul (pc := 128) dX10_oddsFrom_128 ?_
    refine ev_iload (pc := 129) dX10_oddsFrom_129 rfl ?_
    refine ev_iadd (pc := 131) dX10_oddsFrom_131 ?_
    obtain ⟨q23a, q23b, q23c, hL⟩ := cX_un hL
    refine ev_iald (pc := 132) dX10_oddsFrom_132 q23a q23b q23c ?_
    obtain ⟨q24a, q24d, q24b, q24c, hL⟩ := cY_un hL
    refine ev_iast (pc := 133) dX10_oddsFrom_133 q24a q24d q24b q24c ?_
    refine ev_puG hL (fun h25 hL => ?_)
    refine ev_iinc (pc := 134) dX10_oddsFrom_134 rfl (lnl_v rfl rfl) (Nat.le_of_ble_eq_true rfl) ?_
    refine ev_goto (pc := 137) (tgt := 108) dX10_oddsFrom_137 rfl ?_
    exact ev_le (lvle_s (lvle_s (lvle_s (lvle_s (lvle_n (lvle_s (lvle_n (lvle_s (lvle_s lvle_z))))))))) (hk108 _ _ hL)
set_option maxHeartbeats 1000000 in
set_option maxRecDepth 100000 in
theorem KMd_oddsFrom_b108 {ω : Wd} {z : Nat → Prop} {d0 : Nat} {kf : Hp × Int × Int × Int × Int × Int → Option (Int × Hp)}  {h h' : Hp} {x0 x1 x2 x3 x5 x7 x8 r : Int} (hkf : ∀ s o, kf s = some o → CtB ω N_Md_oddsFrom d0 [aV ω s.2.1, iV s.2.2.1, iV s.2.2.2.1, iV s.2.2.2.2.1, iV s.2.2.2.2.2] z s.1 (some (iV o.1)) o.2) (hL : Md_oddsFrom_b108 kf h x0 x1 x2 x3 x5 x7 x8 = some (r, h')) : EvB ω N_Md_oddsFrom (d0 + 5) (QB (some (iV r)) z h') z h 108 [some (aV ω x0), some (iV x1), some (iV x2), some (iV x3), none, some (iV x5), none, some (iV x7), some (iV x8)] [] := by
  unfold Md_oddsFrom_b108 at hL
  refine itr_link (P := fun (s : Hp × Int × Int × Int × Int × Int × Int × Int) (o : Int × Hp) => EvB ω N_Md_oddsFrom (d0 + 5) (QB (some (iV o.1)) z o.2) z s.1 108 [some (aV ω s.2.1), some (iV s.2.2.1), some (iV s.2.2.2.1), some (iV s.2.2.2.2.1), none, some (iV s.2.2.2.2.2.1), none, some (iV s.2.2.2.2.2.2.1), some (iV s.2.2.2.2.2.2.2)] []) ?_ _ _ _ hL
  intro k hk s o h9
  have h10 := KMd_oddsFrom_b108_body (ω := ω) (z := z) (d0 := d0) (kf := kf) (k108 := k) (h := s.1) (x0 := s.2.1) (x1 := s.2.2.1) (x2 := s.2.2.2.1) (x3 := s.2.2.2.2.1) (x5 := s.2.2.2.2.2.1) (x7 := s.2.2.2.2.2.2.1) (x8 := s.2.2.2.2.2.2.2) (r := o.1) (h' := o.2) hkf
  exact h10 hk h9
set_option maxHeartbeats 1000000 in
set_option maxRecDepth 100000 in
theorem KMd_oddsFrom_b14_body {ω : Wd} {z : Nat → Prop} {d0 : Nat} {kf : Hp × Int × Int × Int × Int × Int → Option (Int × Hp)}  {k14 : Hp × Int × Int × Int × Int × Int × Int → Option (Int × Hp)} {h h' : Hp} {x0 x1 x2 x3 x4 x5 r : Int} (hkf : ∀ s o, kf s = some o → CtB ω N_Md_oddsFrom d0 [aV ω s.2.1, iV s.2.2.1, iV s.2.2.2.1, iV s.2.2.2.2.1, iV s.2.2.2.2.2] z s.1 (some (iV o.1)) o.2) (hk14 : ∀ s o, k14 s = some o → EvB ω N_Md_oddsFrom (d0 + 5) (QB (some (iV o.1)) z o.2) z s.1 14 [some (aV ω s.2.1), some (iV s.2.2.1), some (iV s.2.2.2.1), some (iV s.2.2.2.2.1), some (iV s.2.2.2.2.2.1), some (iV s.2.2.2.2.2.2), none, none, none] []) (hL : Md_oddsFrom_b14_body kf k14 h x0 x1 x2 x3 x4 x5 = some (r, h')) : EvB ω N_Md_oddsFrom (d0 + 5) (QB (some (iV r)) z h') z h 14 [some (aV ω x0), some (iV x1), some (iV x2), some (iV x3), some (iV x4), some (iV x5), none, none, none] [] := by
  unfold Md_oddsFrom_b14_body at hL
  refine ev_iload (pc := 14) dX10_oddsFrom_14 rfl ?_
  refine ev_bipush (pc := 16) dX10_oddsFrom_16 (by decide) ?_
  refine ev_icmp_gt (pc := 18) (tgt := 46) dX10_oddsFrom_18 rfl hL rfl (fun hL => ?_) (fun hL => ?_)
  · refine ev_iload (pc := 46) dX10_oddsFrom_46 rfl ?_
    refine ev_i2l (pc := 48) dX10_oddsFrom_48 ?_
    refine ev_iload_n (pc := 49) (i := 3) dX10_oddsFrom_49 rfl rfl ?_
    refine ev_i2l (pc := 50) dX10_oddsFrom_50 ?_
    refine ev_lmul (pc := 51) dX10_oddsFrom_51 ?_
    refine ev_ldc2 (pc := 52) (x := 100) dX10_oddsFrom_52 w_l_Md_493 ?_
    refine ev_ldiv (pc := 55) dX10_oddsFrom_55 hL (fun hL => ?_)
    refine ev_l2i (pc := 56) dX10_oddsFrom_56 ?_
    refine ev_bdI hL (fun v1 hL => ?_)
    refine ev_istore (pc := 57) dX10_oddsFrom_57 (lnl_v rfl rfl) (Nat.le_of_ble_eq_true rfl) ?_
    refine ev_aload_n (pc := 59) (i := 0) dX10_oddsFrom_59 rfl rfl ?_
    refine ev_aload_n (pc := 60) (i := 0) dX10_oddsFrom_60 rfl rfl ?_
    obtain ⟨hs2, hL⟩ := cC_un hL
    refine ev_get (pc := 61) (c9 := 10) (k9 := 33) dX10_oddsFrom_61 fl_Md_64 (by decide) hs2 (gv10_33 hs2) ?_
    refine ev_iconst (pc := 64) dX10_oddsFrom_64 ?_
    obtain ⟨r3, h4, hc5, hL⟩ := cl_un hL
    refine evB_callV_I (pc := 65) (M_Md_goEvening hc5) dX10_oddsFrom_65 mt_Md_goEvening st_Md_goEvening ml_Md_390 hs2 (by decide) ⟨_, rfl, rfl⟩ (by omega) rfl rfl (Nat.le_trans sm_z (by decide)) ?_
    refine ev_istore (pc := 68) dX10_oddsFrom_68 (lnl_v rfl rfl) (Nat.le_of_ble_eq_true rfl) ?_
    refine ev_aload_n (pc := 70) (i := 0) dX10_oddsFrom_70 rfl rfl ?_
    refine ev_get (pc := 71) (c9 := 10) (k9 := 40) dX10_oddsFrom_71 fl_Md_344 (by decide) hs2 gv10_40 ?_
    refine ev_iload_n (pc := 74) (i := 1) dX10_oddsFrom_74 rfl rfl ?_
    obtain ⟨r6, h7, hc8, hL⟩ := cl_un hL
    refine evB_callS_I (pc := 75) (M_Md_has hc8) dX10_oddsFrom_75 mt_Md_has st_Md_has ml_Md_229 (by omega) rfl rfl (Nat.le_trans sm_z (by decide)) ?_
    refine ev_if_eq (pc := 78) (tgt := 89) dX10_oddsFrom_78 rfl hL rfl (fun hL => ?_) (fun hL => ?_)
    · refine ev_aload_n (pc := 89) (i := 0) dX10_oddsFrom_89 rfl rfl ?_
      refine ev_iload_n (pc := 90) (i := 1) dX10_oddsFrom_90 rfl rfl ?_
      refine ev_iload_n (pc := 91) (i := 2) dX10_oddsFrom_91 rfl rfl ?_
      refine ev_iconst (pc := 92) dX10_oddsFrom_92 ?_
      refine ev_isub (pc := 93) dX10_oddsFrom_93 ?_
      refine ev_iload_n (pc := 94) (i := 3) dX10_oddsFrom_94 rfl rfl ?_
      refine ev_iload (pc := 95) dX10_oddsFrom_95 rfl ?_
      refine ev_iload (pc := 97) dX10_oddsFrom_97 rfl ?_
      refine ev_isub (pc := 99) dX10_oddsFrom_99 ?_
      obtain ⟨r9, h10, hc11, hL⟩ := cl_un hL
      refine evB_callV_I (pc := 100) (hkf _ _ hc11) dX10_oddsFrom_100 mt_Md_oddsFrom st_Md_oddsFrom ml_Md_495 hs2 (by decide) ⟨_, rfl, rfl⟩ (by omega) rfl rfl (Nat.le_trans sm_z (by decide)) ?_
      refine ev_istore (pc := 103) dX10_oddsFrom_103 (lnl_v rfl rfl) (Nat.le_of_ble_eq_true rfl) ?_
      refine ev_iconst (pc := 105) dX10_oddsFrom_105 ?_
      refine ev_istore (pc := 106) dX10_oddsFrom_106 (lnl_v rfl rfl) (Nat.le_of_ble_eq_true rfl) ?_
      exact ev_le (lvle_s (lvle_s (lvle_s (lvle_s (lvle_n (lvle_s (lvle_n (lvle_s (lvle_s lvle_z))))))))) (KMd_oddsFrom_b108 hkf hL)
    · refine ev_iload (pc := 81) dX10_oddsFrom_81 rfl ?_
      refine ev_iload (pc := 83) dX10_oddsFrom_83 rfl ?_
      refine ev_isub (pc := 85) dX10_oddsFrom_85 ?_
      refine ev_goto (pc := 86) (tgt := 103) dX10_oddsFrom_86 rfl ?_
      refine ev_bdI hL (fun v26 hL => ?_)
      refine ev_istore (pc := 103) dX10_oddsFrom_103 (lnl_v rfl rfl) (Nat.le_of_ble_eq_true rfl) ?_
      refine ev_iconst (pc := 105) dX10_oddsFrom_105 ?_
      refine ev_istore (pc := 106) dX10_oddsFrom_106 (lnl_v rfl rfl) (Nat.le_of_ble_eq_true rfl) ?_
      exact ev_le (lvle_s (lvle_s (lvle_s (lvle_s (lvle_n (lvle_s (lvle_n (lvle_s (lvle_s lvle_z))))))))) (KMd_oddsFrom_b108 hkf hL)
  · refine ev_aload_n (pc := 21) (i := 0) dX10_oddsFrom_21 rfl rfl ?_
    obtain ⟨hs27, hL⟩ := cC_un hL
    refine ev_get (pc := 22) (c9 := 10) (k9 := 51) dX10_oddsFrom_22 fl_Md_90 (by decide) hs27 (gv10_51 hs27) ?_
    refine ev_bipush (pc := 25) dX10_oddsFrom_25 (by decide) ?_
    refine ev_iload_n (pc := 27) (i := 2) dX10_oddsFrom_27 rfl rfl ?_
    refine ev_imul (pc := 28) dX10_oddsFrom_28 ?_
    refine ev_iload (pc := 29) dX10_oddsFrom_29 rfl ?_
    refine ev_iadd (pc := 31) dX10_oddsFrom_31 ?_
    refine ev_aload_n (pc := 32) (i := 0) dX10_oddsFrom_32 rfl rfl ?_
    refine ev_get (pc := 33) (c9 := 10) (k9 := 33) dX10_oddsFrom_33 fl_Md_64 (by decide) hs27 (gv10_33 hs27) ?_
    refine ev_iload (pc := 36) dX10_oddsFrom_36 rfl ?_
    obtain ⟨q28a, q28b, q28c, hL⟩ := cX_un hL
    refine ev_iald (pc := 38) dX10_oddsFrom_38 q28a q28b q28c ?_
    obtain ⟨q29a, q29d, q29b, q29c, hL⟩ := cY_un hL
    refine ev_iast (pc := 39) dX10_oddsFrom_39 q29a q29d q29b q29c ?_
    refine ev_puG hL (fun h30 hL => ?_)
    refine ev_iinc (pc := 40) dX10_oddsFrom_40 rfl (lnl_v rfl rfl) (Nat.le_of_ble_eq_true rfl) ?_
    refine ev_goto (pc := 43) (tgt := 14) dX10_oddsFrom_43 rfl ?_
    exact ev_le (lvle_s (lvle_s (lvle_s (lvle_s (lvle_s (lvle_s (lvle_n (lvle_n (lvle_n lvle_z))))))))) (hk14 _ _ hL)
set_option maxHeartbeats 1000000 in
set_option maxRecDepth 100000 in
theorem KMd_oddsFrom_b14 {ω : Wd} {z : Nat → Prop} {d0 : Nat} {kf : Hp × Int × Int × Int × Int × Int → Option (Int × Hp)}  {h h' : Hp} {x0 x1 x2 x3 x4 x5 r : Int} (hkf : ∀ s o, kf s = some o → CtB ω N_Md_oddsFrom d0 [aV ω s.2.1, iV s.2.2.1, iV s.2.2.2.1, iV s.2.2.2.2.1, iV s.2.2.2.2.2] z s.1 (some (iV o.1)) o.2) (hL : Md_oddsFrom_b14 kf h x0 x1 x2 x3 x4 x5 = some (r, h')) : EvB ω N_Md_oddsFrom (d0 + 5) (QB (some (iV r)) z h') z h 14 [some (aV ω x0), some (iV x1), some (iV x2), some (iV x3), some (iV x4), some (iV x5), none, none, none] [] := by
  unfold Md_oddsFrom_b14 at hL
  refine itr_link (P := fun (s : Hp × Int × Int × Int × Int × Int × Int) (o : Int × Hp) => EvB ω N_Md_oddsFrom (d0 + 5) (QB (some (iV o.1)) z o.2) z s.1 14 [some (aV ω s.2.1), some (iV s.2.2.1), some (iV s.2.2.2.1), some (iV s.2.2.2.2.1), some (iV s.2.2.2.2.2.1), some (iV s.2.2.2.2.2.2), none, none, none] []) ?_ _ _ _ hL
  intro k hk s o h9
  have h10 := KMd_oddsFrom_b14_body (ω := ω) (z := z) (d0 := d0) (kf := kf) (k14 := k) (h := s.1) (x0 := s.2.1) (x1 := s.2.2.1) (x2 := s.2.2.2.1) (x3 := s.2.2.2.2.1) (x4 := s.2.2.2.2.2.1) (x5 := s.2.2.2.2.2.2) (r := o.1) (h' := o.2) hkf
  exact h10 hk h9
set_option maxHeartbeats 1000000 in
set_option maxRecDepth 100000 in
theorem MB_Md_oddsFrom {ω : Wd} {z : Nat → Prop} {d0 : Nat} {kf : Hp × Int × Int × Int × Int × Int → Option (Int × Hp)} {h h' : Hp} {a0 a1 a2 a3 a4 r : Int} (hkf : ∀ s o, kf s = some o → CtB ω N_Md_oddsFrom d0 [aV ω s.2.1, iV s.2.2.1, iV s.2.2.2.1, iV s.2.2.2.2.1, iV s.2.2.2.2.2] z s.1 (some (iV o.1)) o.2) (hL : Md_oddsFrom_body kf h a0 a1 a2 a3 a4 = some (r, h')) : CtB ω N_Md_oddsFrom (d0 + 5) [aV ω a0, iV a1, iV a2, iV a3, iV a4] z h (some (iV r)) h' := by
  unfold Md_oddsFrom_body at hL
  refine Ct_of (lv := [some (aV ω a0), some (iV a1), some (iV a2), some (iV a3), some (iV a4), none, none, none, none]) (by decide) (Nat.le_trans (sl_1 (cat_aV _ _) (sl_1 (cat_iV _) (sl_1 (cat_iV _) (sl_1 (cat_iV _) (sl_1 (cat_iV _) sl_z))))) (Nat.le_of_ble_eq_true rfl)) (la_1 (cat_aV _ _) (la_1 (cat_iV _) (la_1 (cat_iV _) (la_1 (cat_iV _) (la_1 (cat_iV _) (la_n (la_n (la_n (la_n la_z))))))))) ?_
  refine ev_iload_n (pc := 0) (i := 2) dX10_oddsFrom_0 rfl rfl ?_
  refine ev_if_eq (pc := 1) (tgt := 9) dX10_oddsFrom_1 rfl hL rfl (fun hL => ?_) (fun hL => ?_)
  · refine ev_iconst (pc := 9) dX10_oddsFrom_9 ?_
    exact evB_iret (pc := 10) dX10_oddsFrom_10 rfl hL
  · refine ev_iload (pc := 4) dX10_oddsFrom_4 rfl ?_
    refine ev_if_ne (pc := 6) (tgt := 11) dX10_oddsFrom_6 rfl hL rfl (fun hL => ?_) (fun hL => ?_)
    · refine ev_iconst (pc := 9) dX10_oddsFrom_9 ?_
      exact evB_iret (pc := 10) dX10_oddsFrom_10 rfl hL
    · refine ev_iconst (pc := 11) dX10_oddsFrom_11 ?_
      refine ev_istore (pc := 12) dX10_oddsFrom_12 (lnl_v rfl rfl) (Nat.le_of_ble_eq_true rfl) ?_
      exact ev_le (lvle_s (lvle_s (lvle_s (lvle_s (lvle_s (lvle_s (lvle_n (lvle_n (lvle_n lvle_z))))))))) (KMd_oddsFrom_b14 hkf hL)
set_option maxHeartbeats 1000000 in
set_option maxRecDepth 100000 in
theorem MR_Md_oddsFrom {ω : Wd} {z : Nat → Prop} : ∀ (n : Nat) (s : Hp × Int × Int × Int × Int × Int) (o : Int × Hp), itr (fun k s => Md_oddsFrom_body k s.1 s.2.1 s.2.2.1 s.2.2.2.1 s.2.2.2.2.1 s.2.2.2.2.2) n s = some o → CtB ω N_Md_oddsFrom (n * 5) [aV ω s.2.1, iV s.2.2.1, iV s.2.2.2.1, iV s.2.2.2.2.1, iV s.2.2.2.2.2] z s.1 (some (iV o.1)) o.2 := by
  refine itr_rec (P := fun (n : Nat) (s : Hp × Int × Int × Int × Int × Int) (o : Int × Hp) => CtB ω N_Md_oddsFrom (n * 5) [aV ω s.2.1, iV s.2.2.1, iV s.2.2.2.1, iV s.2.2.2.2.1, iV s.2.2.2.2.2] z s.1 (some (iV o.1)) o.2) (fun n k hk s o h9 => ?_)
  have := MB_Md_oddsFrom (ω := ω) (z := z) (h := s.1) (a0 := s.2.1) (a1 := s.2.2.1) (a2 := s.2.2.2.1) (a3 := s.2.2.2.2.1) (a4 := s.2.2.2.2.2) (r := o.1) (h' := o.2) hk h9
  rwa [show n * 5 + 5 = (n + 1) * 5 from by omega] at this
set_option maxHeartbeats 1000000 in
set_option maxRecDepth 100000 in
theorem M_Md_oddsFrom {ω : Wd} {z : Nat → Prop} {h h' : Hp} {a0 a1 a2 a3 a4 r : Int} (hL : Md_oddsFrom h a0 a1 a2 a3 a4 = some (r, h')) : CtB ω N_Md_oddsFrom 60 [aV ω a0, iV a1, iV a2, iV a3, iV a4] z h (some (iV r)) h' := by
  unfold Md_oddsFrom Md_oddsFrom_f at hL
  exact MR_Md_oddsFrom RF (h, a0, a1, a2, a3, a4) (r, h') hL
set_option maxHeartbeats 1000000 in
set_option maxRecDepth 100000 in
theorem M_Md_odds {ω : Wd} {z : Nat → Prop} {h h' : Hp} {a0 a1 a2 a3 r : Int}  (hL : Md_odds h a0 a1 a2 a3 = some (r, h')) : CtB ω N_Md_odds 61 [aV ω a0, iV a1, iV a2, iV a3] z h (some (iV r)) h' := by
  unfold Md_odds at hL
  refine Ct_of (lv := [some (aV ω a0), some (iV a1), some (iV a2), some (iV a3)]) (by decide) (Nat.le_trans (sl_1 (cat_aV _ _) (sl_1 (cat_iV _) (sl_1 (cat_iV _) (sl_1 (cat_iV _) sl_z)))) (Nat.le_of_ble_eq_true rfl)) (la_1 (cat_aV _ _) (la_1 (cat_iV _) (la_1 (cat_iV _) (la_1 (cat_iV _) la_z)))) ?_
  refine ev_aload_n (pc := 0) (i := 0) dX10_odds_0 rfl rfl ?_
  refine ev_iconst (pc := 1) dX10_odds_1 ?_
  obtain ⟨hs1, hL⟩ := cC_un hL
  refine evB_putI (pc := 2) (c9 := 10) (k9 := 0) (kI := 0) dX10_odds_2 fl_Md_96 hs1 (by decide) (fun q hq => by cases hq; rfl) rfl rfl rfl ?_
  refine ev_puG hL (fun h2 hL => ?_)
  refine ev_aload_n (pc := 5) (i := 0) dX10_odds_5 rfl rfl ?_
  refine ev_iload_n (pc := 6) (i := 1) dX10_odds_6 rfl rfl ?_
  obtain ⟨r3, h4, hc5, hL⟩ := cl_un hL
  refine evB_callV_I (pc := 7) (M_Md_isPerson hc5) dX10_odds_7 mt_Md_isPerson st_Md_isPerson ml_Md_309 hs1 (by decide) ⟨_, rfl, rfl⟩ (Nat.le_of_ble_eq_true rfl) rfl rfl (Nat.le_trans sm_z (by decide)) ?_
  refine ev_if_eq (pc := 10) (tgt := 37) dX10_odds_10 rfl hL rfl (fun hL => ?_) (fun hL => ?_)
  · refine ev_iconst (pc := 37) dX10_odds_37 ?_
    exact evB_iret (pc := 38) dX10_odds_38 rfl hL
  · refine ev_iload_n (pc := 13) (i := 2) dX10_odds_13 rfl rfl ?_
    refine ev_i2l (pc := 14) dX10_odds_14 ?_
    refine ev_lconst (pc := 15) (x := 0) dX10_odds_15 rfl ?_
    refine ev_ldc2 (pc := 16) (x := 6) dX10_odds_16 w_l_Md_499 ?_
    obtain ⟨r6, h7, hc8, hL⟩ := cl_un hL
    refine evB_callS_I (pc := 19) (M_Md_isIn hc8) dX10_odds_19 mt_Md_isIn st_Md_isIn ml_Md_217 (Nat.le_of_ble_eq_true rfl) rfl rfl (Nat.le_trans sm_z (by decide)) ?_
    refine ev_if_eq (pc := 22) (tgt := 37) dX10_odds_22 rfl hL rfl (fun hL => ?_) (fun hL => ?_)
    · refine ev_iconst (pc := 37) dX10_odds_37 ?_
      exact evB_iret (pc := 38) dX10_odds_38 rfl hL
    · refine ev_iload_n (pc := 25) (i := 3) dX10_odds_25 rfl rfl ?_
      refine ev_i2l (pc := 26) dX10_odds_26 ?_
      refine ev_lconst (pc := 27) (x := 0) dX10_odds_27 rfl ?_
      refine ev_ldc2 (pc := 28) (x := 100) dX10_odds_28 w_l_Md_493 ?_
      obtain ⟨r9, h10, hc11, hL⟩ := cl_un hL
      refine evB_callS_I (pc := 31) (M_Md_isIn hc11) dX10_odds_31 mt_Md_isIn st_Md_isIn ml_Md_217 (Nat.le_of_ble_eq_true rfl) rfl rfl (Nat.le_trans sm_z (by decide)) ?_
      refine ev_if_ne (pc := 34) (tgt := 39) dX10_odds_34 rfl hL rfl (fun hL => ?_) (fun hL => ?_)
      · refine ev_iconst (pc := 37) dX10_odds_37 ?_
        exact evB_iret (pc := 38) dX10_odds_38 rfl hL
      · refine ev_aload_n (pc := 39) (i := 0) dX10_odds_39 rfl rfl ?_
        refine ev_get (pc := 40) (c9 := 10) (k9 := 32) dX10_odds_40 fl_Md_61 (by decide) hs1 (gv10_32 hs1) ?_
        refine ev_aload_n (pc := 43) (i := 0) dX10_odds_43 rfl rfl ?_
        refine ev_get (pc := 44) (c9 := 10) (k9 := 33) dX10_odds_44 fl_Md_64 (by decide) hs1 (gv10_33 hs1) ?_
        obtain ⟨r12, h13, hc14, hL⟩ := cl_un hL
        refine evB_callS_V (pc := 47) (M_Md_copy hc14) dX10_odds_47 mt_Md_copy st_Md_copy ml_Md_429 (Nat.le_of_ble_eq_true rfl) rfl rfl (Nat.le_trans sm_z (by decide)) ?_
        refine ev_aload_n (pc := 50) (i := 0) dX10_odds_50 rfl rfl ?_
        refine ev_iload_n (pc := 51) (i := 1) dX10_odds_51 rfl rfl ?_
        refine ev_iload_n (pc := 52) (i := 2) dX10_odds_52 rfl rfl ?_
        refine ev_iload_n (pc := 53) (i := 3) dX10_odds_53 rfl rfl ?_
        refine ev_ldc_w (pc := 54) (x := 1000000000) dX10_odds_54 w_c_Md_501 ?_
        obtain ⟨r15, h16, hc17, hL⟩ := cl_un hL
        refine evB_callV_I (pc := 57) (M_Md_oddsFrom hc17) dX10_odds_57 mt_Md_oddsFrom st_Md_oddsFrom ml_Md_495 hs1 (by decide) ⟨_, rfl, rfl⟩ (Nat.le_of_ble_eq_true rfl) rfl rfl (Nat.le_trans sm_z (by decide)) ?_
        exact evB_iret (pc := 60) dX10_odds_60 rfl hL
set_option maxHeartbeats 1000000 in
set_option maxRecDepth 100000 in
theorem M_Md_owed {ω : Wd} {z : Nat → Prop} {h h' : Hp} {a0 a1 a2 r : Int}  (hL : Md_owed h a0 a1 a2 = some (r, h')) : CtB ω N_Md_owed 3 [aV ω a0, iV a1, iV a2] z h (some (iV r)) h' := by
  unfold Md_owed at hL
  refine Ct_of (lv := [some (aV ω a0), some (iV a1), some (iV a2)]) (by decide) (Nat.le_trans (sl_1 (cat_aV _ _) (sl_1 (cat_iV _) (sl_1 (cat_iV _) sl_z))) (Nat.le_of_ble_eq_true rfl)) (la_1 (cat_aV _ _) (la_1 (cat_iV _) (la_1 (cat_iV _) la_z))) ?_
  refine ev_aload_n (pc := 0) (i := 0) dX10_owed_0 rfl rfl ?_
  refine ev_iconst (pc := 1) dX10_owed_1 ?_
  obtain ⟨hs1, hL⟩ := cC_un hL
  refine evB_putI (pc := 2) (c9 := 10) (k9 := 0) (kI := 0) dX10_owed_2 fl_Md_96 hs1 (by decide) (fun q hq => by cases hq; rfl) rfl rfl rfl ?_
  refine ev_puG hL (fun h2 hL => ?_)
  refine ev_aload_n (pc := 5) (i := 0) dX10_owed_5 rfl rfl ?_
  refine ev_iload_n (pc := 6) (i := 1) dX10_owed_6 rfl rfl ?_
  refine ev_iload_n (pc := 7) (i := 2) dX10_owed_7 rfl rfl ?_
  obtain ⟨r3, h4, hc5, hL⟩ := cl_un hL
  refine evB_callV_I (pc := 8) (M_Md_areTwo hc5) dX10_owed_8 mt_Md_areTwo st_Md_areTwo ml_Md_393 hs1 (by decide) ⟨_, rfl, rfl⟩ (Nat.le_of_ble_eq_true rfl) rfl rfl (Nat.le_trans sm_z (by decide)) ?_
  refine ev_if_eq (pc := 11) (tgt := 26) dX10_owed_11 rfl hL rfl (fun hL => ?_) (fun hL => ?_)
  · refine ev_iconst (pc := 26) dX10_owed_26 ?_
    exact evB_iret (pc := 27) dX10_owed_27 rfl hL
  · refine ev_aload_n (pc := 14) (i := 0) dX10_owed_14 rfl rfl ?_
    refine ev_get (pc := 15) (c9 := 10) (k9 := 32) dX10_owed_15 fl_Md_61 (by decide) hs1 (gv10_32 hs1) ?_
    refine ev_iload_n (pc := 18) (i := 1) dX10_owed_18 rfl rfl ?_
    refine ev_iload_n (pc := 19) (i := 2) dX10_owed_19 rfl rfl ?_
    obtain ⟨r6, h7, hc8, hL⟩ := cl_un hL
    refine evB_callS_I (pc := 20) (M_Md_owes hc8) dX10_owed_20 mt_Md_owes st_Md_owes ml_Md_312 (Nat.le_of_ble_eq_true rfl) rfl rfl (Nat.le_trans sm_z (by decide)) ?_
    refine ev_goto (pc := 23) (tgt := 27) dX10_owed_23 rfl ?_
    exact evB_iret (pc := 27) dX10_owed_27 rfl hL
set_option maxHeartbeats 1000000 in
set_option maxRecDepth 100000 in
theorem M_Md_pardon {ω : Wd} {z : Nat → Prop} {h h' : Hp} {a0 a1 a2 r : Int}  (hL : Md_pardon h a0 a1 a2 = some (r, h')) : CtB ω N_Md_pardon 4 [aV ω a0, iV a1, iV a2] z h (some (iV r)) h' := by
  unfold Md_pardon at hL
  refine Ct_of (lv := [some (aV ω a0), some (iV a1), some (iV a2), none]) (by decide) (Nat.le_trans (sl_1 (cat_aV _ _) (sl_1 (cat_iV _) (sl_1 (cat_iV _) sl_z))) (Nat.le_of_ble_eq_true rfl)) (la_1 (cat_aV _ _) (la_1 (cat_iV _) (la_1 (cat_iV _) (la_n la_z)))) ?_
  refine ev_aload_n (pc := 0) (i := 0) dX10_pardon_0 rfl rfl ?_
  refine ev_iconst (pc := 1) dX10_pardon_1 ?_
  obtain ⟨hs1, hL⟩ := cC_un hL
  refine evB_putI (pc := 2) (c9 := 10) (k9 := 0) (kI := 0) dX10_pardon_2 fl_Md_96 hs1 (by decide) (fun q hq => by cases hq; rfl) rfl rfl rfl ?_
  refine ev_puG hL (fun h2 hL => ?_)
  refine ev_aload_n (pc := 5) (i := 0) dX10_pardon_5 rfl rfl ?_
  refine ev_aload_n (pc := 6) (i := 0) dX10_pardon_6 rfl rfl ?_
  refine ev_get (pc := 7) (c9 := 10) (k9 := 32) dX10_pardon_7 fl_Md_61 (by decide) hs1 (gv10_32 hs1) ?_
  refine ev_iload_n (pc := 10) (i := 1) dX10_pardon_10 rfl rfl ?_
  refine ev_iload_n (pc := 11) (i := 2) dX10_pardon_11 rfl rfl ?_
  obtain ⟨r3, h4, hc5, hL⟩ := cl_un hL
  refine evB_callV_I (pc := 12) (M_Md_canPardon hc5) dX10_pardon_12 mt_Md_canPardon st_Md_canPardon ml_Md_404 hs1 (by decide) ⟨_, rfl, rfl⟩ (Nat.le_of_ble_eq_true rfl) rfl rfl (Nat.le_trans sm_z (by decide)) ?_
  refine ev_if_ne (pc := 15) (tgt := 20) dX10_pardon_15 rfl hL rfl (fun hL => ?_) (fun hL => ?_)
  · refine ev_iconst (pc := 18) dX10_pardon_18 ?_
    exact evB_iret (pc := 19) dX10_pardon_19 rfl hL
  · refine ev_aload_n (pc := 20) (i := 0) dX10_pardon_20 rfl rfl ?_
    obtain ⟨r6, h7, hc8, hL⟩ := cl_un hL
    refine evB_callV_V (pc := 21) (M_Md_remember hc8) dX10_pardon_21 mt_Md_remember st_Md_remember ml_Md_384 hs1 (by decide) ⟨_, rfl, rfl⟩ (Nat.le_of_ble_eq_true rfl) rfl rfl (Nat.le_trans sm_z (by decide)) ?_
    refine ev_aload_n (pc := 24) (i := 0) dX10_pardon_24 rfl rfl ?_
    refine ev_get (pc := 25) (c9 := 10) (k9 := 32) dX10_pardon_25 fl_Md_61 (by decide) hs1 (gv10_32 hs1) ?_
    refine ev_iload_n (pc := 28) (i := 1) dX10_pardon_28 rfl rfl ?_
    refine ev_iload_n (pc := 29) (i := 2) dX10_pardon_29 rfl rfl ?_
    obtain ⟨r9, h10, hc11, hL⟩ := cl_un hL
    refine evB_callS_I (pc := 30) (M_Md_owes hc11) dX10_pardon_30 mt_Md_owes st_Md_owes ml_Md_312 (Nat.le_of_ble_eq_true rfl) rfl rfl (Nat.le_trans sm_z (by decide)) ?_
    refine ev_istore_n (pc := 33) (i := 3) dX10_pardon_33 rfl (lnl_v rfl rfl) (Nat.le_of_ble_eq_true rfl) ?_
    refine ev_aload_n (pc := 34) (i := 0) dX10_pardon_34 rfl rfl ?_
    refine ev_get (pc := 35) (c9 := 10) (k9 := 32) dX10_pardon_35 fl_Md_61 (by decide) hs1 (gv10_32 hs1) ?_
    refine ev_iload_n (pc := 38) (i := 1) dX10_pardon_38 rfl rfl ?_
    refine ev_iload_n (pc := 39) (i := 2) dX10_pardon_39 rfl rfl ?_
    obtain ⟨r12, h13, hc14, hL⟩ := cl_un hL
    refine evB_callS_V (pc := 40) (M_Md_pardons hc14) dX10_pardon_40 mt_Md_pardons st_Md_pardons ml_Md_407 (Nat.le_of_ble_eq_true rfl) rfl rfl (Nat.le_trans sm_z (by decide)) ?_
    refine ev_iload_n (pc := 43) (i := 3) dX10_pardon_43 rfl rfl ?_
    exact evB_iret (pc := 44) dX10_pardon_44 rfl hL
set_option maxHeartbeats 1000000 in
set_option maxRecDepth 100000 in
theorem KMd_perform_b24_body {ω : Wd} {z : Nat → Prop}  {k24 : Hp × Int × Int × Int → Option (Int × Hp)} {h h' : Hp} {x0 x1 x2 r : Int}  (hk24 : ∀ s o, k24 s = some o → EvB ω N_Md_perform 1307 (QB (some (iV o.1)) z o.2) z s.1 24 [some (aV ω s.2.1), some (iV s.2.2.1), some (iV s.2.2.2)] []) (hL : Md_perform_b24_body  k24 h x0 x1 x2 = some (r, h')) : EvB ω N_Md_perform 1307 (QB (some (iV r)) z h') z h 24 [some (aV ω x0), some (iV x1), some (iV x2)] [] := by
  unfold Md_perform_b24_body at hL
  refine ev_iload_n (pc := 24) (i := 2) dX10_perform_24 rfl rfl ?_
  refine ev_aload_n (pc := 25) (i := 0) dX10_perform_25 rfl rfl ?_
  obtain ⟨hs6, hL⟩ := cC_un hL
  refine ev_get (pc := 26) (c9 := 10) (k9 := 25) dX10_perform_26 fl_Md_58 (by decide) hs6 (gv10_25 hs6) ?_
  refine ev_iload_n (pc := 29) (i := 1) dX10_perform_29 rfl rfl ?_
  obtain ⟨q7a, q7b, q7c, hL⟩ := cX_un hL
  refine ev_iald (pc := 30) dX10_perform_30 q7a q7b q7c ?_
  refine ev_icmp_ge (pc := 31) (tgt := 79) dX10_perform_31 rfl hL rfl (fun hL => ?_) (fun hL => ?_)
  · refine ev_aload_n (pc := 34) (i := 0) dX10_perform_34 rfl rfl ?_
    refine ev_aload_n (pc := 35) (i := 0) dX10_perform_35 rfl rfl ?_
    refine ev_get (pc := 36) (c9 := 10) (k9 := 32) dX10_perform_36 fl_Md_61 (by decide) hs6 (gv10_32 hs6) ?_
    refine ev_iconst (pc := 39) dX10_perform_39 ?_
    refine ev_bipush (pc := 40) dX10_perform_40 (by decide) ?_
    refine ev_iload_n (pc := 42) (i := 1) dX10_perform_42 rfl rfl ?_
    refine ev_imul (pc := 43) dX10_perform_43 ?_
    refine ev_iload_n (pc := 44) (i := 2) dX10_perform_44 rfl rfl ?_
    refine ev_iadd (pc := 45) dX10_perform_45 ?_
    refine ev_imul (pc := 46) dX10_perform_46 ?_
    obtain ⟨r8, h9, hc10, hL⟩ := cl_un hL
    refine evB_callV_I (pc := 47) (M_Md_canStep hc10) dX10_perform_47 mt_Md_canStep st_Md_canStep ml_Md_433 hs6 (by decide) ⟨_, rfl, rfl⟩ (Nat.le_of_ble_eq_true rfl) rfl rfl (Nat.le_trans sm_z (by decide)) ?_
    refine ev_if_eq (pc := 50) (tgt := 79) dX10_perform_50 rfl hL rfl (fun hL => ?_) (fun hL => ?_)
    · refine ev_iload_n (pc := 79) (i := 2) dX10_perform_79 rfl rfl ?_
      exact evB_iret (pc := 80) dX10_perform_80 rfl hL
    · refine ev_aload_n (pc := 53) (i := 0) dX10_perform_53 rfl rfl ?_
      obtain ⟨r11, h12, hc13, hL⟩ := cl_un hL
      refine evB_callV_V (pc := 54) (M_Md_remember hc13) dX10_perform_54 mt_Md_remember st_Md_remember ml_Md_384 hs6 (by decide) ⟨_, rfl, rfl⟩ (Nat.le_of_ble_eq_true rfl) rfl rfl (Nat.le_trans sm_z (by decide)) ?_
      refine ev_aload_n (pc := 57) (i := 0) dX10_perform_57 rfl rfl ?_
      refine ev_aload_n (pc := 58) (i := 0) dX10_perform_58 rfl rfl ?_
      refine ev_get (pc := 59) (c9 := 10) (k9 := 32) dX10_perform_59 fl_Md_61 (by decide) hs6 (gv10_32 hs6) ?_
      refine ev_iconst (pc := 62) dX10_perform_62 ?_
      refine ev_bipush (pc := 63) dX10_perform_63 (by decide) ?_
      refine ev_iload_n (pc := 65) (i := 1) dX10_perform_65 rfl rfl ?_
      refine ev_imul (pc := 66) dX10_perform_66 ?_
      refine ev_iload_n (pc := 67) (i := 2) dX10_perform_67 rfl rfl ?_
      refine ev_iadd (pc := 68) dX10_perform_68 ?_
      refine ev_imul (pc := 69) dX10_perform_69 ?_
      obtain ⟨r14, h15, hc16, hL⟩ := cl_un hL
      refine evB_callV_V (pc := 70) (M_Md_goStep hc16) dX10_perform_70 mt_Md_goStep st_Md_goStep ml_Md_436 hs6 (by decide) ⟨_, rfl, rfl⟩ (Nat.le_of_ble_eq_true rfl) rfl rfl (Nat.le_trans sm_z (by decide)) ?_
      refine ev_iinc (pc := 73) dX10_perform_73 rfl (lnl_v rfl rfl) (Nat.le_of_ble_eq_true rfl) ?_
      refine ev_goto (pc := 76) (tgt := 24) dX10_perform_76 rfl ?_
      exact ev_le (lvle_s (lvle_s (lvle_s lvle_z))) (hk24 _ _ hL)
  · refine ev_iload_n (pc := 79) (i := 2) dX10_perform_79 rfl rfl ?_
    exact evB_iret (pc := 80) dX10_perform_80 rfl hL
set_option maxHeartbeats 1000000 in
set_option maxRecDepth 100000 in
theorem KMd_perform_b24 {ω : Wd} {z : Nat → Prop}  {h h' : Hp} {x0 x1 x2 r : Int}  (hL : Md_perform_b24 h x0 x1 x2 = some (r, h')) : EvB ω N_Md_perform 1307 (QB (some (iV r)) z h') z h 24 [some (aV ω x0), some (iV x1), some (iV x2)] [] := by
  unfold Md_perform_b24 at hL
  refine itr_link (P := fun (s : Hp × Int × Int × Int) (o : Int × Hp) => EvB ω N_Md_perform 1307 (QB (some (iV o.1)) z o.2) z s.1 24 [some (aV ω s.2.1), some (iV s.2.2.1), some (iV s.2.2.2)] []) ?_ _ _ _ hL
  intro k hk s o h9
  have h10 := KMd_perform_b24_body (ω := ω) (z := z) (k24 := k) (h := s.1) (x0 := s.2.1) (x1 := s.2.2.1) (x2 := s.2.2.2) (r := o.1) (h' := o.2) 
  exact h10 hk h9
set_option maxHeartbeats 1000000 in
set_option maxRecDepth 100000 in
theorem M_Md_perform {ω : Wd} {z : Nat → Prop} {h h' : Hp} {a0 a1 r : Int}  (hL : Md_perform h a0 a1 = some (r, h')) : CtB ω N_Md_perform 1307 [aV ω a0, iV a1] z h (some (iV r)) h' := by
  unfold Md_perform at hL
  refine Ct_of (lv := [some (aV ω a0), some (iV a1), none]) (by decide) (Nat.le_trans (sl_1 (cat_aV _ _) (sl_1 (cat_iV _) sl_z)) (Nat.le_of_ble_eq_true rfl)) (la_1 (cat_aV _ _) (la_1 (cat_iV _) (la_n la_z))) ?_
  refine ev_aload_n (pc := 0) (i := 0) dX10_perform_0 rfl rfl ?_
  refine ev_iconst (pc := 1) dX10_perform_1 ?_
  obtain ⟨hs1, hL⟩ := cC_un hL
  refine evB_putI (pc := 2) (c9 := 10) (k9 := 0) (kI := 0) dX10_perform_2 fl_Md_96 hs1 (by decide) (fun q hq => by cases hq; rfl) rfl rfl rfl ?_
  refine ev_puG hL (fun h2 hL => ?_)
  refine ev_aload_n (pc := 5) (i := 0) dX10_perform_5 rfl rfl ?_
  refine ev_iload_n (pc := 6) (i := 1) dX10_perform_6 rfl rfl ?_
  obtain ⟨r3, h4, hc5, hL⟩ := cl_un hL
  refine evB_callV_I (pc := 7) (M_Md_isPlan hc5) dX10_perform_7 mt_Md_isPlan st_Md_isPlan ml_Md_425 hs1 (by decide) ⟨_, rfl, rfl⟩ (Nat.le_of_ble_eq_true rfl) rfl rfl (Nat.le_trans sm_z (by decide)) ?_
  refine ev_if_eq (pc := 10) (tgt := 20) dX10_perform_10 rfl hL rfl (fun hL => ?_) (fun hL => ?_)
  · refine ev_iconst (pc := 20) dX10_perform_20 ?_
    exact evB_iret (pc := 21) dX10_perform_21 rfl hL
  · refine ev_aload_n (pc := 13) (i := 0) dX10_perform_13 rfl rfl ?_
    refine ev_get (pc := 14) (c9 := 10) (k9 := 26) dX10_perform_14 fl_Md_294 (by decide) hs1 gv10_26 ?_
    refine ev_if_ne (pc := 17) (tgt := 22) dX10_perform_17 rfl hL rfl (fun hL => ?_) (fun hL => ?_)
    · refine ev_iconst (pc := 20) dX10_perform_20 ?_
      exact evB_iret (pc := 21) dX10_perform_21 rfl hL
    · refine ev_iconst (pc := 22) dX10_perform_22 ?_
      refine ev_istore_n (pc := 23) (i := 2) dX10_perform_23 rfl (lnl_v rfl rfl) (Nat.le_of_ble_eq_true rfl) ?_
      exact ev_le (lvle_s (lvle_s (lvle_s lvle_z))) (KMd_perform_b24  hL)
set_option maxHeartbeats 1000000 in
set_option maxRecDepth 100000 in
theorem KMd_person_b26 {ω : Wd} {z : Nat → Prop}  {h h' : Hp} {x0 x1 x2 y0 y1 r : Int}  (hL : Md_person_b26 h x0 x1 x2 y0 y1 = some (r, h')) : EvB ω N_Md_person 3 (QB (some (iV r)) z h') z h 26 [some (aV ω x0), some (iV x1), some (iV x2)] [iV y1, aV ω y0] := by
  unfold Md_person_b26 at hL
  obtain ⟨hs5, hL⟩ := cC_un hL
  refine evB_putI (pc := 26) (c9 := 10) (k9 := 0) (kI := 0) dX10_person_26 fl_Md_96 hs5 (by decide) (fun q hq => by cases hq; rfl) rfl rfl rfl ?_
  refine ev_puG hL (fun h6 hL => ?_)
  refine ev_aload_n (pc := 29) (i := 0) dX10_person_29 rfl rfl ?_
  obtain ⟨hs7, hL⟩ := cC_un hL
  refine ev_get (pc := 30) (c9 := 10) (k9 := 0) dX10_person_30 fl_Md_96 (by decide) hs7 gv10_0 ?_
  refine ev_if_le (pc := 33) (tgt := 38) dX10_person_33 rfl hL rfl (fun hL => ?_) (fun hL => ?_)
  · refine ev_iconst (pc := 36) dX10_person_36 ?_
    exact evB_iret (pc := 37) dX10_person_37 rfl hL
  · refine ev_iload_n (pc := 38) (i := 2) dX10_person_38 rfl rfl ?_
    refine ev_iconst (pc := 39) dX10_person_39 ?_
    refine ev_icmp_ne (pc := 40) (tgt := 56) dX10_person_40 rfl hL rfl (fun hL => ?_) (fun hL => ?_)
    · refine ev_aload_n (pc := 43) (i := 0) dX10_person_43 rfl rfl ?_
      refine ev_get (pc := 44) (c9 := 10) (k9 := 20) dX10_person_44 fl_Md_43 (by decide) hs7 (gv10_20 hs7) ?_
      refine ev_iconst (pc := 47) dX10_person_47 ?_
      refine ev_iload_n (pc := 48) (i := 1) dX10_person_48 rfl rfl ?_
      refine ev_imul (pc := 49) dX10_person_49 ?_
      refine ev_iconst (pc := 50) dX10_person_50 ?_
      refine ev_iadd (pc := 51) dX10_person_51 ?_
      obtain ⟨q8a, q8b, q8c, hL⟩ := cX_un hL
      refine ev_iald (pc := 52) dX10_person_52 q8a q8b q8c ?_
      refine ev_goto (pc := 53) (tgt := 82) dX10_person_53 rfl ?_
      exact evB_iret (pc := 82) dX10_person_82 rfl hL
    · refine ev_iload_n (pc := 56) (i := 2) dX10_person_56 rfl rfl ?_
      refine ev_iconst (pc := 57) dX10_person_57 ?_
      refine ev_icmp_ne (pc := 58) (tgt := 69) dX10_person_58 rfl hL rfl (fun hL => ?_) (fun hL => ?_)
      · refine ev_aload_n (pc := 61) (i := 0) dX10_person_61 rfl rfl ?_
        refine ev_iload_n (pc := 62) (i := 1) dX10_person_62 rfl rfl ?_
        obtain ⟨r9, h10, hc11, hL⟩ := cl_un hL
        refine evB_callV_I (pc := 63) (M_Md_owesInAll hc11) dX10_person_63 mt_Md_owesInAll st_Md_owesInAll ml_Md_366 hs7 (by decide) ⟨_, rfl, rfl⟩ (Nat.le_of_ble_eq_true rfl) rfl rfl (Nat.le_trans sm_z (by decide)) ?_
        refine ev_goto (pc := 66) (tgt := 82) dX10_person_66 rfl ?_
        exact evB_iret (pc := 82) dX10_person_82 rfl hL
      · refine ev_aload_n (pc := 69) (i := 0) dX10_person_69 rfl rfl ?_
        refine ev_get (pc := 70) (c9 := 10) (k9 := 32) dX10_person_70 fl_Md_61 (by decide) hs7 (gv10_32 hs7) ?_
        refine ev_bipush (pc := 73) dX10_person_73 (by decide) ?_
        refine ev_iconst (pc := 75) dX10_person_75 ?_
        refine ev_iload_n (pc := 76) (i := 1) dX10_person_76 rfl rfl ?_
        refine ev_imul (pc := 77) dX10_person_77 ?_
        refine ev_iadd (pc := 78) dX10_person_78 ?_
        refine ev_iload_n (pc := 79) (i := 2) dX10_person_79 rfl rfl ?_
        refine ev_iadd (pc := 80) dX10_person_80 ?_
        obtain ⟨q12a, q12b, q12c, hL⟩ := cX_un hL
        refine ev_iald (pc := 81) dX10_person_81 q12a q12b q12c ?_
        exact evB_iret (pc := 82) dX10_person_82 rfl hL
set_option maxHeartbeats 1000000 in
set_option maxRecDepth 100000 in
theorem M_Md_person {ω : Wd} {z : Nat → Prop} {h h' : Hp} {a0 a1 a2 r : Int}  (hL : Md_person h a0 a1 a2 = some (r, h')) : CtB ω N_Md_person 3 [aV ω a0, iV a1, iV a2] z h (some (iV r)) h' := by
  unfold Md_person at hL
  refine Ct_of (lv := [some (aV ω a0), some (iV a1), some (iV a2)]) (by decide) (Nat.le_trans (sl_1 (cat_aV _ _) (sl_1 (cat_iV _) (sl_1 (cat_iV _) sl_z))) (Nat.le_of_ble_eq_true rfl)) (la_1 (cat_aV _ _) (la_1 (cat_iV _) (la_1 (cat_iV _) la_z))) ?_
  refine ev_aload_n (pc := 0) (i := 0) dX10_person_0 rfl rfl ?_
  refine ev_aload_n (pc := 1) (i := 0) dX10_person_1 rfl rfl ?_
  refine ev_iload_n (pc := 2) (i := 1) dX10_person_2 rfl rfl ?_
  obtain ⟨hs1, hL⟩ := cC_un hL
  obtain ⟨r2, h3, hc4, hL⟩ := cl_un hL
  refine evB_callV_I (pc := 3) (M_Md_isPerson hc4) dX10_person_3 mt_Md_isPerson st_Md_isPerson ml_Md_309 hs1 (by decide) ⟨_, rfl, rfl⟩ (Nat.le_of_ble_eq_true rfl) rfl rfl (Nat.le_trans (sm_1 (cat_aV _ _) sm_z) (by decide)) ?_
  refine ev_if_eq (pc := 6) (tgt := 25) dX10_person_6 rfl hL rfl (fun hL => ?_) (fun hL => ?_)
  · refine ev_iconst (pc := 25) dX10_person_25 ?_
    exact ev_le (lvle_s (lvle_s (lvle_s lvle_z))) (KMd_person_b26  hL)
  · refine ev_iload_n (pc := 9) (i := 2) dX10_person_9 rfl rfl ?_
    refine ev_i2l (pc := 10) dX10_person_10 ?_
    refine ev_lconst (pc := 11) (x := 0) dX10_person_11 rfl ?_
    refine ev_ldc2 (pc := 12) (x := 3) dX10_person_12 w_l_Md_364 ?_
    obtain ⟨r13, h14, hc15, hL⟩ := cl_un hL
    refine evB_callS_I (pc := 15) (M_Md_isIn hc15) dX10_person_15 mt_Md_isIn st_Md_isIn ml_Md_217 (Nat.le_of_ble_eq_true rfl) rfl rfl (Nat.le_trans (sm_1 (cat_aV _ _) sm_z) (by decide)) ?_
    refine ev_if_eq (pc := 18) (tgt := 25) dX10_person_18 rfl hL rfl (fun hL => ?_) (fun hL => ?_)
    · refine ev_iconst (pc := 25) dX10_person_25 ?_
      exact ev_le (lvle_s (lvle_s (lvle_s lvle_z))) (KMd_person_b26  hL)
    · refine ev_iconst (pc := 21) dX10_person_21 ?_
      refine ev_goto (pc := 22) (tgt := 26) dX10_person_22 rfl ?_
      exact ev_le (lvle_s (lvle_s (lvle_s lvle_z))) (KMd_person_b26  hL)
set_option maxHeartbeats 1000000 in
set_option maxRecDepth 100000 in
theorem KMd_rests_b131 {ω : Wd} {z : Nat → Prop} {k27 : Hp × Int × Int × Int × Int × Int × Int → Option (Int × Hp)} {k39 : Hp × Int × Int × Int × Int × Int × Int × Int → Option (Int × Hp)} {h h' : Hp} {x0 x1 x2 x3 x4 x5 x6 x7 r : Int} (hk27 : ∀ s o, k27 s = some o → EvB ω N_Md_rests 4 (QB (some (iV o.1)) z o.2) z s.1 27 [some (aV ω s.2.1), some (iV s.2.2.1), some (iV s.2.2.2.1), some (iV s.2.2.2.2.1), some (iV s.2.2.2.2.2.1), some (iV s.2.2.2.2.2.2), none, none, none] []) (hk39 : ∀ s o, k39 s = some o → EvB ω N_Md_rests 4 (QB (some (iV o.1)) z o.2) z s.1 39 [some (aV ω s.2.1), some (iV s.2.2.1), some (iV s.2.2.2.1), some (iV s.2.2.2.2.1), some (iV s.2.2.2.2.2.1), some (iV s.2.2.2.2.2.2.1), some (iV s.2.2.2.2.2.2.2), none, none] []) (hL : Md_rests_b131 k27 k39 h x0 x1 x2 x3 x4 x5 x6 x7 = some (r, h')) : EvB ω N_Md_rests 4 (QB (some (iV r)) z h') z h 131 [some (aV ω x0), some (iV x1), some (iV x2), some (iV x3), some (iV x4), some (iV x5), some (iV x6), some (iV x7), none] [] := by
  unfold Md_rests_b131 at hL
  refine ev_iload (pc := 131) dX10_rests_131 rfl ?_
  refine ev_if_ne (pc := 133) (tgt := 139) dX10_rests_133 rfl hL rfl (fun hL => ?_) (fun hL => ?_)
  · refine ev_goto (pc := 136) (tgt := 157) dX10_rests_136 rfl ?_
    refine ev_iinc (pc := 157) dX10_rests_157 rfl (lnl_v rfl rfl) (Nat.le_of_ble_eq_true rfl) ?_
    refine ev_goto (pc := 160) (tgt := 39) dX10_rests_160 rfl ?_
    exact ev_le (lvle_s (lvle_s (lvle_s (lvle_s (lvle_s (lvle_s (lvle_s (lvle_n (lvle_n lvle_z))))))))) (hk39 _ _ hL)
  · refine ev_iload (pc := 139) dX10_rests_139 rfl ?_
    refine ev_iload_n (pc := 141) (i := 3) dX10_rests_141 rfl rfl ?_
    refine ev_icmp_ne (pc := 142) (tgt := 154) dX10_rests_142 rfl hL rfl (fun hL => ?_) (fun hL => ?_)
    · refine ev_bipush (pc := 145) dX10_rests_145 (by decide) ?_
      refine ev_iload (pc := 147) dX10_rests_147 rfl ?_
      refine ev_imul (pc := 149) dX10_rests_149 ?_
      refine ev_iload (pc := 150) dX10_rests_150 rfl ?_
      refine ev_iadd (pc := 152) dX10_rests_152 ?_
      exact evB_iret (pc := 153) dX10_rests_153 rfl hL
    · refine ev_iinc (pc := 154) dX10_rests_154 rfl (lnl_v rfl rfl) (Nat.le_of_ble_eq_true rfl) ?_
      refine ev_iinc (pc := 157) dX10_rests_157 rfl (lnl_v rfl rfl) (Nat.le_of_ble_eq_true rfl) ?_
      refine ev_goto (pc := 160) (tgt := 39) dX10_rests_160 rfl ?_
      exact ev_le (lvle_s (lvle_s (lvle_s (lvle_s (lvle_s (lvle_s (lvle_s (lvle_n (lvle_n lvle_z))))))))) (hk39 _ _ hL)
set_option maxHeartbeats 1000000 in
set_option maxRecDepth 100000 in
theorem KMd_rests_b54_body {ω : Wd} {z : Nat → Prop} {k27 : Hp × Int × Int × Int × Int × Int × Int → Option (Int × Hp)} {k39 : Hp × Int × Int × Int × Int × Int × Int × Int → Option (Int × Hp)} {k54 : Hp × Int × Int × Int × Int × Int × Int × Int × Int × Int → Option (Int × Hp)} {h h' : Hp} {x0 x1 x2 x3 x4 x5 x6 x7 x8 r : Int} (hk27 : ∀ s o, k27 s = some o → EvB ω N_Md_rests 4 (QB (some (iV o.1)) z o.2) z s.1 27 [some (aV ω s.2.1), some (iV s.2.2.1), some (iV s.2.2.2.1), some (iV s.2.2.2.2.1), some (iV s.2.2.2.2.2.1), some (iV s.2.2.2.2.2.2), none, none, none] []) (hk39 : ∀ s o, k39 s = some o → EvB ω N_Md_rests 4 (QB (some (iV o.1)) z o.2) z s.1 39 [some (aV ω s.2.1), some (iV s.2.2.1), some (iV s.2.2.2.1), some (iV s.2.2.2.2.1), some (iV s.2.2.2.2.2.1), some (iV s.2.2.2.2.2.2.1), some (iV s.2.2.2.2.2.2.2), none, none] []) (hk54 : ∀ s o, k54 s = some o → EvB ω N_Md_rests 4 (QB (some (iV o.1)) z o.2) z s.1 54 [some (aV ω s.2.1), some (iV s.2.2.1), some (iV s.2.2.2.1), some (iV s.2.2.2.2.1), some (iV s.2.2.2.2.2.1), some (iV s.2.2.2.2.2.2.1), some (iV s.2.2.2.2.2.2.2.1), some (iV s.2.2.2.2.2.2.2.2.1), some (iV s.2.2.2.2.2.2.2.2.2)] []) (hL : Md_rests_b54_body k27 k39 k54 h x0 x1 x2 x3 x4 x5 x6 x7 x8 = some (r, h')) : EvB ω N_Md_rests 4 (QB (some (iV r)) z h') z h 54 [some (aV ω x0), some (iV x1), some (iV x2), some (iV x3), some (iV x4), some (iV x5), some (iV x6), some (iV x7), some (iV x8)] [] := by
  unfold Md_rests_b54_body at hL
  refine ev_iload (pc := 54) dX10_rests_54 rfl ?_
  refine ev_aload_n (pc := 56) (i := 0) dX10_rests_56 rfl rfl ?_
  obtain ⟨hs8, hL⟩ := cC_un hL
  refine ev_get (pc := 57) (c9 := 10) (k9 := 26) dX10_rests_57 fl_Md_294 (by decide) hs8 gv10_26 ?_
  refine ev_icmp_ge (pc := 60) (tgt := 131) dX10_rests_60 rfl hL rfl (fun hL => ?_) (fun hL => ?_)
  · refine ev_iload (pc := 63) dX10_rests_63 rfl ?_
    refine ev_if_eq (pc := 65) (tgt := 131) dX10_rests_65 rfl hL rfl (fun hL => ?_) (fun hL => ?_)
    · exact ev_le (lvle_s (lvle_s (lvle_s (lvle_s (lvle_s (lvle_s (lvle_s (lvle_s (lvle_n lvle_z))))))))) (KMd_rests_b131 hk27 hk39 hL)
    · refine ev_aload_n (pc := 68) (i := 0) dX10_rests_68 rfl rfl ?_
      refine ev_iload_n (pc := 69) (i := 1) dX10_rests_69 rfl rfl ?_
      refine ev_iload_n (pc := 70) (i := 2) dX10_rests_70 rfl rfl ?_
      refine ev_iload (pc := 71) dX10_rests_71 rfl ?_
      refine ev_iload (pc := 73) dX10_rests_73 rfl ?_
      refine ev_iconst (pc := 75) dX10_rests_75 ?_
      obtain ⟨r9, h10, hc11, hL⟩ := cl_un hL
      refine evB_callV_I (pc := 76) (M_Md_gameOf hc11) dX10_rests_76 mt_Md_gameOf st_Md_gameOf ml_Md_489 hs8 (by decide) ⟨_, rfl, rfl⟩ (Nat.le_of_ble_eq_true rfl) rfl rfl (Nat.le_trans sm_z (by decide)) ?_
      refine ev_aload_n (pc := 79) (i := 0) dX10_rests_79 rfl rfl ?_
      refine ev_iload_n (pc := 80) (i := 1) dX10_rests_80 rfl rfl ?_
      refine ev_iload_n (pc := 81) (i := 2) dX10_rests_81 rfl rfl ?_
      refine ev_iload (pc := 82) dX10_rests_82 rfl ?_
      refine ev_iload (pc := 84) dX10_rests_84 rfl ?_
      refine ev_iconst (pc := 86) dX10_rests_86 ?_
      obtain ⟨r12, h13, hc14, hL⟩ := cl_un hL
      refine evB_callV_I (pc := 87) (M_Md_gameOf hc14) dX10_rests_87 mt_Md_gameOf st_Md_gameOf ml_Md_489 hs8 (by decide) ⟨_, rfl, rfl⟩ (Nat.le_of_ble_eq_true rfl) rfl rfl (Nat.le_trans (sm_1 (cat_iV _) sm_z) (by decide)) ?_
      refine ev_icmp_gt (pc := 90) (tgt := 122) dX10_rests_90 rfl hL rfl (fun hL => ?_) (fun hL => ?_)
      · refine ev_iconst (pc := 122) dX10_rests_122 ?_
        refine ev_istore (pc := 123) dX10_rests_123 (lnl_v rfl rfl) (Nat.le_of_ble_eq_true rfl) ?_
        refine ev_iinc (pc := 125) dX10_rests_125 rfl (lnl_v rfl rfl) (Nat.le_of_ble_eq_true rfl) ?_
        refine ev_goto (pc := 128) (tgt := 54) dX10_rests_128 rfl ?_
        exact ev_le (lvle_s (lvle_s (lvle_s (lvle_s (lvle_s (lvle_s (lvle_s (lvle_s (lvle_s lvle_z))))))))) (hk54 _ _ hL)
      · refine ev_aload_n (pc := 93) (i := 0) dX10_rests_93 rfl rfl ?_
        refine ev_iload_n (pc := 94) (i := 1) dX10_rests_94 rfl rfl ?_
        refine ev_iload_n (pc := 95) (i := 2) dX10_rests_95 rfl rfl ?_
        refine ev_iload (pc := 96) dX10_rests_96 rfl ?_
        refine ev_iload (pc := 98) dX10_rests_98 rfl ?_
        refine ev_iconst (pc := 100) dX10_rests_100 ?_
        obtain ⟨r15, h16, hc17, hL⟩ := cl_un hL
        refine evB_callV_I (pc := 101) (M_Md_gameOf hc17) dX10_rests_101 mt_Md_gameOf st_Md_gameOf ml_Md_489 hs8 (by decide) ⟨_, rfl, rfl⟩ (Nat.le_of_ble_eq_true rfl) rfl rfl (Nat.le_trans sm_z (by decide)) ?_
        refine ev_aload_n (pc := 104) (i := 0) dX10_rests_104 rfl rfl ?_
        refine ev_iload_n (pc := 105) (i := 1) dX10_rests_105 rfl rfl ?_
        refine ev_iload_n (pc := 106) (i := 2) dX10_rests_106 rfl rfl ?_
        refine ev_iload (pc := 107) dX10_rests_107 rfl ?_
        refine ev_iload (pc := 109) dX10_rests_109 rfl ?_
        refine ev_iconst (pc := 111) dX10_rests_111 ?_
        obtain ⟨r18, h19, hc20, hL⟩ := cl_un hL
        refine evB_callV_I (pc := 112) (M_Md_gameOf hc20) dX10_rests_112 mt_Md_gameOf st_Md_gameOf ml_Md_489 hs8 (by decide) ⟨_, rfl, rfl⟩ (Nat.le_of_ble_eq_true rfl) rfl rfl (Nat.le_trans (sm_1 (cat_iV _) sm_z) (by decide)) ?_
        refine ev_icmp_gt (pc := 115) (tgt := 122) dX10_rests_115 rfl hL rfl (fun hL => ?_) (fun hL => ?_)
        · refine ev_iconst (pc := 122) dX10_rests_122 ?_
          refine ev_istore (pc := 123) dX10_rests_123 (lnl_v rfl rfl) (Nat.le_of_ble_eq_true rfl) ?_
          refine ev_iinc (pc := 125) dX10_rests_125 rfl (lnl_v rfl rfl) (Nat.le_of_ble_eq_true rfl) ?_
          refine ev_goto (pc := 128) (tgt := 54) dX10_rests_128 rfl ?_
          exact ev_le (lvle_s (lvle_s (lvle_s (lvle_s (lvle_s (lvle_s (lvle_s (lvle_s (lvle_s lvle_z))))))))) (hk54 _ _ hL)
        · refine ev_iconst (pc := 118) dX10_rests_118 ?_
          refine ev_goto (pc := 119) (tgt := 123) dX10_rests_119 rfl ?_
          refine ev_istore (pc := 123) dX10_rests_123 (lnl_v rfl rfl) (Nat.le_of_ble_eq_true rfl) ?_
          refine ev_iinc (pc := 125) dX10_rests_125 rfl (lnl_v rfl rfl) (Nat.le_of_ble_eq_true rfl) ?_
          refine ev_goto (pc := 128) (tgt := 54) dX10_rests_128 rfl ?_
          exact ev_le (lvle_s (lvle_s (lvle_s (lvle_s (lvle_s (lvle_s (lvle_s (lvle_s (lvle_s lvle_z))))))))) (hk54 _ _ hL)
  · exact ev_le (lvle_s (lvle_s (lvle_s (lvle_s (lvle_s (lvle_s (lvle_s (lvle_s (lvle_n lvle_z))))))))) (KMd_rests_b131 hk27 hk39 hL)
set_option maxHeartbeats 1000000 in
set_option maxRecDepth 100000 in
theorem KMd_rests_b54 {ω : Wd} {z : Nat → Prop} {k27 : Hp × Int × Int × Int × Int × Int × Int → Option (Int × Hp)} {k39 : Hp × Int × Int × Int × Int × Int × Int × Int → Option (Int × Hp)} {h h' : Hp} {x0 x1 x2 x3 x4 x5 x6 x7 x8 r : Int} (hk27 : ∀ s o, k27 s = some o → EvB ω N_Md_rests 4 (QB (some (iV o.1)) z o.2) z s.1 27 [some (aV ω s.2.1), some (iV s.2.2.1), some (iV s.2.2.2.1), some (iV s.2.2.2.2.1), some (iV s.2.2.2.2.2.1), some (iV s.2.2.2.2.2.2), none, none, none] []) (hk39 : ∀ s o, k39 s = some o → EvB ω N_Md_rests 4 (QB (some (iV o.1)) z o.2) z s.1 39 [some (aV ω s.2.1), some (iV s.2.2.1), some (iV s.2.2.2.1), some (iV s.2.2.2.2.1), some (iV s.2.2.2.2.2.1), some (iV s.2.2.2.2.2.2.1), some (iV s.2.2.2.2.2.2.2), none, none] []) (hL : Md_rests_b54 k27 k39 h x0 x1 x2 x3 x4 x5 x6 x7 x8 = some (r, h')) : EvB ω N_Md_rests 4 (QB (some (iV r)) z h') z h 54 [some (aV ω x0), some (iV x1), some (iV x2), some (iV x3), some (iV x4), some (iV x5), some (iV x6), some (iV x7), some (iV x8)] [] := by
  unfold Md_rests_b54 at hL
  refine itr_link (P := fun (s : Hp × Int × Int × Int × Int × Int × Int × Int × Int × Int) (o : Int × Hp) => EvB ω N_Md_rests 4 (QB (some (iV o.1)) z o.2) z s.1 54 [some (aV ω s.2.1), some (iV s.2.2.1), some (iV s.2.2.2.1), some (iV s.2.2.2.2.1), some (iV s.2.2.2.2.2.1), some (iV s.2.2.2.2.2.2.1), some (iV s.2.2.2.2.2.2.2.1), some (iV s.2.2.2.2.2.2.2.2.1), some (iV s.2.2.2.2.2.2.2.2.2)] []) ?_ _ _ _ hL
  intro k hk s o h9
  have h10 := KMd_rests_b54_body (ω := ω) (z := z) (k27 := k27) (k39 := k39) (k54 := k) (h := s.1) (x0 := s.2.1) (x1 := s.2.2.1) (x2 := s.2.2.2.1) (x3 := s.2.2.2.2.1) (x4 := s.2.2.2.2.2.1) (x5 := s.2.2.2.2.2.2.1) (x6 := s.2.2.2.2.2.2.2.1) (x7 := s.2.2.2.2.2.2.2.2.1) (x8 := s.2.2.2.2.2.2.2.2.2) (r := o.1) (h' := o.2) hk27 hk39
  exact h10 hk h9
set_option maxHeartbeats 1000000 in
set_option maxRecDepth 100000 in
theorem KMd_rests_b39_body {ω : Wd} {z : Nat → Prop} {k27 : Hp × Int × Int × Int × Int × Int × Int → Option (Int × Hp)} {k39 : Hp × Int × Int × Int × Int × Int × Int × Int → Option (Int × Hp)} {h h' : Hp} {x0 x1 x2 x3 x4 x5 x6 r : Int} (hk27 : ∀ s o, k27 s = some o → EvB ω N_Md_rests 4 (QB (some (iV o.1)) z o.2) z s.1 27 [some (aV ω s.2.1), some (iV s.2.2.1), some (iV s.2.2.2.1), some (iV s.2.2.2.2.1), some (iV s.2.2.2.2.2.1), some (iV s.2.2.2.2.2.2), none, none, none] []) (hk39 : ∀ s o, k39 s = some o → EvB ω N_Md_rests 4 (QB (some (iV o.1)) z o.2) z s.1 39 [some (aV ω s.2.1), some (iV s.2.2.1), some (iV s.2.2.2.1), some (iV s.2.2.2.2.1), some (iV s.2.2.2.2.2.1), some (iV s.2.2.2.2.2.2.1), some (iV s.2.2.2.2.2.2.2), none, none] []) (hL : Md_rests_b39_body k27 k39 h x0 x1 x2 x3 x4 x5 x6 = some (r, h')) : EvB ω N_Md_rests 4 (QB (some (iV r)) z h') z h 39 [some (aV ω x0), some (iV x1), some (iV x2), some (iV x3), some (iV x4), some (iV x5), some (iV x6), none, none] [] := by
  unfold Md_rests_b39_body at hL
  refine ev_iload (pc := 39) dX10_rests_39 rfl ?_
  refine ev_aload_n (pc := 41) (i := 0) dX10_rests_41 rfl rfl ?_
  obtain ⟨hs7, hL⟩ := cC_un hL
  refine ev_get (pc := 42) (c9 := 10) (k9 := 26) dX10_rests_42 fl_Md_294 (by decide) hs7 gv10_26 ?_
  refine ev_icmp_ge (pc := 45) (tgt := 163) dX10_rests_45 rfl hL rfl (fun hL => ?_) (fun hL => ?_)
  · refine ev_iconst (pc := 48) dX10_rests_48 ?_
    refine ev_istore (pc := 49) dX10_rests_49 (lnl_v rfl rfl) (Nat.le_of_ble_eq_true rfl) ?_
    refine ev_iconst (pc := 51) dX10_rests_51 ?_
    refine ev_istore (pc := 52) dX10_rests_52 (lnl_v rfl rfl) (Nat.le_of_ble_eq_true rfl) ?_
    exact ev_le (lvle_s (lvle_s (lvle_s (lvle_s (lvle_s (lvle_s (lvle_s (lvle_s (lvle_s lvle_z))))))))) (KMd_rests_b54 hk27 hk39 hL)
  · refine ev_iinc (pc := 163) dX10_rests_163 rfl (lnl_v rfl rfl) (Nat.le_of_ble_eq_true rfl) ?_
    refine ev_goto (pc := 166) (tgt := 27) dX10_rests_166 rfl ?_
    exact ev_le (lvle_s (lvle_s (lvle_s (lvle_s (lvle_s (lvle_s (lvle_n (lvle_n (lvle_n lvle_z))))))))) (hk27 _ _ hL)
set_option maxHeartbeats 1000000 in
set_option maxRecDepth 100000 in
theorem KMd_rests_b39 {ω : Wd} {z : Nat → Prop} {k27 : Hp × Int × Int × Int × Int × Int × Int → Option (Int × Hp)} {h h' : Hp} {x0 x1 x2 x3 x4 x5 x6 r : Int} (hk27 : ∀ s o, k27 s = some o → EvB ω N_Md_rests 4 (QB (some (iV o.1)) z o.2) z s.1 27 [some (aV ω s.2.1), some (iV s.2.2.1), some (iV s.2.2.2.1), some (iV s.2.2.2.2.1), some (iV s.2.2.2.2.2.1), some (iV s.2.2.2.2.2.2), none, none, none] []) (hL : Md_rests_b39 k27 h x0 x1 x2 x3 x4 x5 x6 = some (r, h')) : EvB ω N_Md_rests 4 (QB (some (iV r)) z h') z h 39 [some (aV ω x0), some (iV x1), some (iV x2), some (iV x3), some (iV x4), some (iV x5), some (iV x6), none, none] [] := by
  unfold Md_rests_b39 at hL
  refine itr_link (P := fun (s : Hp × Int × Int × Int × Int × Int × Int × Int) (o : Int × Hp) => EvB ω N_Md_rests 4 (QB (some (iV o.1)) z o.2) z s.1 39 [some (aV ω s.2.1), some (iV s.2.2.1), some (iV s.2.2.2.1), some (iV s.2.2.2.2.1), some (iV s.2.2.2.2.2.1), some (iV s.2.2.2.2.2.2.1), some (iV s.2.2.2.2.2.2.2), none, none] []) ?_ _ _ _ hL
  intro k hk s o h9
  have h10 := KMd_rests_b39_body (ω := ω) (z := z) (k27 := k27) (k39 := k) (h := s.1) (x0 := s.2.1) (x1 := s.2.2.1) (x2 := s.2.2.2.1) (x3 := s.2.2.2.2.1) (x4 := s.2.2.2.2.2.1) (x5 := s.2.2.2.2.2.2.1) (x6 := s.2.2.2.2.2.2.2) (r := o.1) (h' := o.2) hk27
  exact h10 hk h9
set_option maxHeartbeats 1000000 in
set_option maxRecDepth 100000 in
theorem KMd_rests_b27_body {ω : Wd} {z : Nat → Prop}  {k27 : Hp × Int × Int × Int × Int × Int × Int → Option (Int × Hp)} {h h' : Hp} {x0 x1 x2 x3 x4 x5 r : Int}  (hk27 : ∀ s o, k27 s = some o → EvB ω N_Md_rests 4 (QB (some (iV o.1)) z o.2) z s.1 27 [some (aV ω s.2.1), some (iV s.2.2.1), some (iV s.2.2.2.1), some (iV s.2.2.2.2.1), some (iV s.2.2.2.2.2.1), some (iV s.2.2.2.2.2.2), none, none, none] []) (hL : Md_rests_b27_body  k27 h x0 x1 x2 x3 x4 x5 = some (r, h')) : EvB ω N_Md_rests 4 (QB (some (iV r)) z h') z h 27 [some (aV ω x0), some (iV x1), some (iV x2), some (iV x3), some (iV x4), some (iV x5), none, none, none] [] := by
  unfold Md_rests_b27_body at hL
  refine ev_iload (pc := 27) dX10_rests_27 rfl ?_
  refine ev_aload_n (pc := 29) (i := 0) dX10_rests_29 rfl rfl ?_
  obtain ⟨hs6, hL⟩ := cC_un hL
  refine ev_get (pc := 30) (c9 := 10) (k9 := 26) dX10_rests_30 fl_Md_294 (by decide) hs6 gv10_26 ?_
  refine ev_icmp_ge (pc := 33) (tgt := 169) dX10_rests_33 rfl hL rfl (fun hL => ?_) (fun hL => ?_)
  · refine ev_iconst (pc := 36) dX10_rests_36 ?_
    refine ev_istore (pc := 37) dX10_rests_37 (lnl_v rfl rfl) (Nat.le_of_ble_eq_true rfl) ?_
    exact ev_le (lvle_s (lvle_s (lvle_s (lvle_s (lvle_s (lvle_s (lvle_s (lvle_n (lvle_n lvle_z))))))))) (KMd_rests_b39 hk27 hL)
  · refine ev_iload_n (pc := 169) (i := 3) dX10_rests_169 rfl rfl ?_
    refine ev_iconst (pc := 170) dX10_rests_170 ?_
    refine ev_icmp_ne (pc := 171) (tgt := 179) dX10_rests_171 rfl hL rfl (fun hL => ?_) (fun hL => ?_)
    · refine ev_iload (pc := 174) dX10_rests_174 rfl ?_
      refine ev_goto (pc := 176) (tgt := 180) dX10_rests_176 rfl ?_
      exact evB_iret (pc := 180) dX10_rests_180 rfl hL
    · refine ev_iconst (pc := 179) dX10_rests_179 ?_
      exact evB_iret (pc := 180) dX10_rests_180 rfl hL
set_option maxHeartbeats 1000000 in
set_option maxRecDepth 100000 in
theorem KMd_rests_b27 {ω : Wd} {z : Nat → Prop}  {h h' : Hp} {x0 x1 x2 x3 x4 x5 r : Int}  (hL : Md_rests_b27 h x0 x1 x2 x3 x4 x5 = some (r, h')) : EvB ω N_Md_rests 4 (QB (some (iV r)) z h') z h 27 [some (aV ω x0), some (iV x1), some (iV x2), some (iV x3), some (iV x4), some (iV x5), none, none, none] [] := by
  unfold Md_rests_b27 at hL
  refine itr_link (P := fun (s : Hp × Int × Int × Int × Int × Int × Int) (o : Int × Hp) => EvB ω N_Md_rests 4 (QB (some (iV o.1)) z o.2) z s.1 27 [some (aV ω s.2.1), some (iV s.2.2.1), some (iV s.2.2.2.1), some (iV s.2.2.2.2.1), some (iV s.2.2.2.2.2.1), some (iV s.2.2.2.2.2.2), none, none, none] []) ?_ _ _ _ hL
  intro k hk s o h9
  have h10 := KMd_rests_b27_body (ω := ω) (z := z) (k27 := k) (h := s.1) (x0 := s.2.1) (x1 := s.2.2.1) (x2 := s.2.2.2.1) (x3 := s.2.2.2.2.1) (x4 := s.2.2.2.2.2.1) (x5 := s.2.2.2.2.2.2) (r := o.1) (h' := o.2) 
  exact h10 hk h9
set_option maxHeartbeats 1000000 in
set_option maxRecDepth 100000 in
theorem M_Md_rests {ω : Wd} {z : Nat → Prop} {h h' : Hp} {a0 a1 a2 a3 r : Int}  (hL : Md_rests h a0 a1 a2 a3 = some (r, h')) : CtB ω N_Md_rests 4 [aV ω a0, iV a1, iV a2, iV a3] z h (some (iV r)) h' := by
  unfold Md_rests at hL
  refine Ct_of (lv := [some (aV ω a0), some (iV a1), some (iV a2), some (iV a3), none, none, none, none, none]) (by decide) (Nat.le_trans (sl_1 (cat_aV _ _) (sl_1 (cat_iV _) (sl_1 (cat_iV _) (sl_1 (cat_iV _) sl_z)))) (Nat.le_of_ble_eq_true rfl)) (la_1 (cat_aV _ _) (la_1 (cat_iV _) (la_1 (cat_iV _) (la_1 (cat_iV _) (la_n (la_n (la_n (la_n (la_n la_z))))))))) ?_
  refine ev_aload_n (pc := 0) (i := 0) dX10_rests_0 rfl rfl ?_
  refine ev_iconst (pc := 1) dX10_rests_1 ?_
  obtain ⟨hs1, hL⟩ := cC_un hL
  refine evB_putI (pc := 2) (c9 := 10) (k9 := 0) (kI := 0) dX10_rests_2 fl_Md_96 hs1 (by decide) (fun q hq => by cases hq; rfl) rfl rfl rfl ?_
  refine ev_puG hL (fun h2 hL => ?_)
  refine ev_aload_n (pc := 5) (i := 0) dX10_rests_5 rfl rfl ?_
  refine ev_iload_n (pc := 6) (i := 1) dX10_rests_6 rfl rfl ?_
  refine ev_iload_n (pc := 7) (i := 2) dX10_rests_7 rfl rfl ?_
  obtain ⟨r3, h4, hc5, hL⟩ := cl_un hL
  refine evB_callV_I (pc := 8) (M_Md_areTwo hc5) dX10_rests_8 mt_Md_areTwo st_Md_areTwo ml_Md_393 hs1 (by decide) ⟨_, rfl, rfl⟩ (Nat.le_of_ble_eq_true rfl) rfl rfl (Nat.le_trans sm_z (by decide)) ?_
  refine ev_if_eq (pc := 11) (tgt := 19) dX10_rests_11 rfl hL rfl (fun hL => ?_) (fun hL => ?_)
  · refine ev_iconst (pc := 19) dX10_rests_19 ?_
    exact evB_iret (pc := 20) dX10_rests_20 rfl hL
  · refine ev_iload_n (pc := 14) (i := 3) dX10_rests_14 rfl rfl ?_
    refine ev_iconst (pc := 15) dX10_rests_15 ?_
    refine ev_icmp_ge (pc := 16) (tgt := 21) dX10_rests_16 rfl hL rfl (fun hL => ?_) (fun hL => ?_)
    · refine ev_iconst (pc := 19) dX10_rests_19 ?_
      exact evB_iret (pc := 20) dX10_rests_20 rfl hL
    · refine ev_iconst (pc := 21) dX10_rests_21 ?_
      refine ev_istore (pc := 22) dX10_rests_22 (lnl_v rfl rfl) (Nat.le_of_ble_eq_true rfl) ?_
      refine ev_iconst (pc := 24) dX10_rests_24 ?_
      refine ev_istore (pc := 25) dX10_rests_25 (lnl_v rfl rfl) (Nat.le_of_ble_eq_true rfl) ?_
      exact ev_le (lvle_s (lvle_s (lvle_s (lvle_s (lvle_s (lvle_s (lvle_n (lvle_n (lvle_n lvle_z))))))))) (KMd_rests_b27  hL)
set_option maxHeartbeats 1000000 in
set_option maxRecDepth 100000 in
theorem KMd_run_b98 {ω : Wd} {z : Nat → Prop}  {h h' : Hp} {x0 x1 x2 x3 r : Int}  (hL : Md_run_b98 h x0 x1 x2 x3 = some (r, h')) : EvB ω N_Md_run 1307 (QB (some (iV r)) z h') z h 98 [some (aV ω x0), some (iV x1), some (iV x2), some (iV x3)] [] := by
  unfold Md_run_b98 at hL
  refine ev_iload_n (pc := 98) (i := 2) dX10_run_98 rfl rfl ?_
  refine ev_iconst (pc := 99) dX10_run_99 ?_
  refine ev_icmp_ne (pc := 100) (tgt := 119) dX10_run_100 rfl hL rfl (fun hL => ?_) (fun hL => ?_)
  · refine ev_aload_n (pc := 103) (i := 0) dX10_run_103 rfl rfl ?_
    obtain ⟨hs17, hL⟩ := cC_un hL
    refine ev_get (pc := 104) (c9 := 10) (k9 := 33) dX10_run_104 fl_Md_64 (by decide) hs17 (gv10_33 hs17) ?_
    refine ev_bipush (pc := 107) dX10_run_107 (by decide) ?_
    obtain ⟨q18a, q18b, q18c, hL⟩ := cX_un hL
    refine ev_iald (pc := 109) dX10_run_109 q18a q18b q18c ?_
    refine ev_aload_n (pc := 110) (i := 0) dX10_run_110 rfl rfl ?_
    refine ev_get (pc := 111) (c9 := 10) (k9 := 32) dX10_run_111 fl_Md_61 (by decide) hs17 (gv10_32 hs17) ?_
    refine ev_bipush (pc := 114) dX10_run_114 (by decide) ?_
    obtain ⟨q19a, q19b, q19c, hL⟩ := cX_un hL
    refine ev_iald (pc := 116) dX10_run_116 q19a q19b q19c ?_
    refine ev_isub (pc := 117) dX10_run_117 ?_
    exact evB_iret (pc := 118) dX10_run_118 rfl hL
  · refine ev_iload_n (pc := 119) (i := 3) dX10_run_119 rfl rfl ?_
    refine ev_aload_n (pc := 120) (i := 0) dX10_run_120 rfl rfl ?_
    obtain ⟨hs20, hL⟩ := cC_un hL
    refine ev_get (pc := 121) (c9 := 10) (k9 := 25) dX10_run_121 fl_Md_58 (by decide) hs20 (gv10_25 hs20) ?_
    refine ev_iload_n (pc := 124) (i := 1) dX10_run_124 rfl rfl ?_
    obtain ⟨q21a, q21b, q21c, hL⟩ := cX_un hL
    refine ev_iald (pc := 125) dX10_run_125 q21a q21b q21c ?_
    refine ev_icmp_ne (pc := 126) (tgt := 133) dX10_run_126 rfl hL rfl (fun hL => ?_) (fun hL => ?_)
    · refine ev_iconst (pc := 129) dX10_run_129 ?_
      refine ev_goto (pc := 130) (tgt := 134) dX10_run_130 rfl ?_
      exact evB_iret (pc := 134) dX10_run_134 rfl hL
    · refine ev_iload_n (pc := 133) (i := 3) dX10_run_133 rfl rfl ?_
      exact evB_iret (pc := 134) dX10_run_134 rfl hL
set_option maxHeartbeats 1000000 in
set_option maxRecDepth 100000 in
theorem KMd_run_b47_body {ω : Wd} {z : Nat → Prop}  {k47 : Hp × Int × Int × Int × Int → Option (Int × Hp)} {h h' : Hp} {x0 x1 x2 x3 r : Int}  (hk47 : ∀ s o, k47 s = some o → EvB ω N_Md_run 1307 (QB (some (iV o.1)) z o.2) z s.1 47 [some (aV ω s.2.1), some (iV s.2.2.1), some (iV s.2.2.2.1), some (iV s.2.2.2.2)] []) (hL : Md_run_b47_body  k47 h x0 x1 x2 x3 = some (r, h')) : EvB ω N_Md_run 1307 (QB (some (iV r)) z h') z h 47 [some (aV ω x0), some (iV x1), some (iV x2), some (iV x3)] [] := by
  unfold Md_run_b47_body at hL
  refine ev_iload_n (pc := 47) (i := 3) dX10_run_47 rfl rfl ?_
  refine ev_aload_n (pc := 48) (i := 0) dX10_run_48 rfl rfl ?_
  obtain ⟨hs12, hL⟩ := cC_un hL
  refine ev_get (pc := 49) (c9 := 10) (k9 := 25) dX10_run_49 fl_Md_58 (by decide) hs12 (gv10_25 hs12) ?_
  refine ev_iload_n (pc := 52) (i := 1) dX10_run_52 rfl rfl ?_
  obtain ⟨q13a, q13b, q13c, hL⟩ := cX_un hL
  refine ev_iald (pc := 53) dX10_run_53 q13a q13b q13c ?_
  refine ev_icmp_ge (pc := 54) (tgt := 98) dX10_run_54 rfl hL rfl (fun hL => ?_) (fun hL => ?_)
  · refine ev_aload_n (pc := 57) (i := 0) dX10_run_57 rfl rfl ?_
    refine ev_aload_n (pc := 58) (i := 0) dX10_run_58 rfl rfl ?_
    refine ev_get (pc := 59) (c9 := 10) (k9 := 33) dX10_run_59 fl_Md_64 (by decide) hs12 (gv10_33 hs12) ?_
    refine ev_iconst (pc := 62) dX10_run_62 ?_
    refine ev_bipush (pc := 63) dX10_run_63 (by decide) ?_
    refine ev_iload_n (pc := 65) (i := 1) dX10_run_65 rfl rfl ?_
    refine ev_imul (pc := 66) dX10_run_66 ?_
    refine ev_iload_n (pc := 67) (i := 3) dX10_run_67 rfl rfl ?_
    refine ev_iadd (pc := 68) dX10_run_68 ?_
    refine ev_imul (pc := 69) dX10_run_69 ?_
    obtain ⟨r14, h15, hc16, hL⟩ := cl_un hL
    refine evB_callV_I (pc := 70) (M_Md_canStep hc16) dX10_run_70 mt_Md_canStep st_Md_canStep ml_Md_433 hs12 (by decide) ⟨_, rfl, rfl⟩ (Nat.le_of_ble_eq_true rfl) rfl rfl (Nat.le_trans sm_z (by decide)) ?_
    refine ev_if_eq (pc := 73) (tgt := 98) dX10_run_73 rfl hL rfl (fun hL => ?_) (fun hL => ?_)
    · exact ev_le (lvle_s (lvle_s (lvle_s (lvle_s lvle_z)))) (KMd_run_b98  hL)
    · refine ev_aload_n (pc := 76) (i := 0) dX10_run_76 rfl rfl ?_
      refine ev_aload_n (pc := 77) (i := 0) dX10_run_77 rfl rfl ?_
      refine ev_get (pc := 78) (c9 := 10) (k9 := 33) dX10_run_78 fl_Md_64 (by decide) hs12 (gv10_33 hs12) ?_
      refine ev_iconst (pc := 81) dX10_run_81 ?_
      refine ev_bipush (pc := 82) dX10_run_82 (by decide) ?_
      refine ev_iload_n (pc := 84) (i := 1) dX10_run_84 rfl rfl ?_
      refine ev_imul (pc := 85) dX10_run_85 ?_
      refine ev_iload_n (pc := 86) (i := 3) dX10_run_86 rfl rfl ?_
      refine ev_iadd (pc := 87) dX10_run_87 ?_
      refine ev_imul (pc := 88) dX10_run_88 ?_
      obtain ⟨r22, h23, hc24, hL⟩ := cl_un hL
      refine evB_callV_V (pc := 89) (M_Md_goStep hc24) dX10_run_89 mt_Md_goStep st_Md_goStep ml_Md_436 hs12 (by decide) ⟨_, rfl, rfl⟩ (Nat.le_of_ble_eq_true rfl) rfl rfl (Nat.le_trans sm_z (by decide)) ?_
      refine ev_iinc (pc := 92) dX10_run_92 rfl (lnl_v rfl rfl) (Nat.le_of_ble_eq_true rfl) ?_
      refine ev_goto (pc := 95) (tgt := 47) dX10_run_95 rfl ?_
      exact ev_le (lvle_s (lvle_s (lvle_s (lvle_s lvle_z)))) (hk47 _ _ hL)
  · exact ev_le (lvle_s (lvle_s (lvle_s (lvle_s lvle_z)))) (KMd_run_b98  hL)
set_option maxHeartbeats 1000000 in
set_option maxRecDepth 100000 in
theorem KMd_run_b47 {ω : Wd} {z : Nat → Prop}  {h h' : Hp} {x0 x1 x2 x3 r : Int}  (hL : Md_run_b47 h x0 x1 x2 x3 = some (r, h')) : EvB ω N_Md_run 1307 (QB (some (iV r)) z h') z h 47 [some (aV ω x0), some (iV x1), some (iV x2), some (iV x3)] [] := by
  unfold Md_run_b47 at hL
  refine itr_link (P := fun (s : Hp × Int × Int × Int × Int) (o : Int × Hp) => EvB ω N_Md_run 1307 (QB (some (iV o.1)) z o.2) z s.1 47 [some (aV ω s.2.1), some (iV s.2.2.1), some (iV s.2.2.2.1), some (iV s.2.2.2.2)] []) ?_ _ _ _ hL
  intro k hk s o h9
  have h10 := KMd_run_b47_body (ω := ω) (z := z) (k47 := k) (h := s.1) (x0 := s.2.1) (x1 := s.2.2.1) (x2 := s.2.2.2.1) (x3 := s.2.2.2.2) (r := o.1) (h' := o.2) 
  exact h10 hk h9
set_option maxHeartbeats 1000000 in
set_option maxRecDepth 100000 in
theorem M_Md_run {ω : Wd} {z : Nat → Prop} {h h' : Hp} {a0 a1 a2 r : Int}  (hL : Md_run h a0 a1 a2 = some (r, h')) : CtB ω N_Md_run 1307 [aV ω a0, iV a1, iV a2] z h (some (iV r)) h' := by
  unfold Md_run at hL
  refine Ct_of (lv := [some (aV ω a0), some (iV a1), some (iV a2), none]) (by decide) (Nat.le_trans (sl_1 (cat_aV _ _) (sl_1 (cat_iV _) (sl_1 (cat_iV _) sl_z))) (Nat.le_of_ble_eq_true rfl)) (la_1 (cat_aV _ _) (la_1 (cat_iV _) (la_1 (cat_iV _) (la_n la_z)))) ?_
  refine ev_aload_n (pc := 0) (i := 0) dX10_run_0 rfl rfl ?_
  refine ev_iconst (pc := 1) dX10_run_1 ?_
  obtain ⟨hs1, hL⟩ := cC_un hL
  refine evB_putI (pc := 2) (c9 := 10) (k9 := 0) (kI := 0) dX10_run_2 fl_Md_96 hs1 (by decide) (fun q hq => by cases hq; rfl) rfl rfl rfl ?_
  refine ev_puG hL (fun h2 hL => ?_)
  refine ev_aload_n (pc := 5) (i := 0) dX10_run_5 rfl rfl ?_
  refine ev_iload_n (pc := 6) (i := 1) dX10_run_6 rfl rfl ?_
  obtain ⟨r3, h4, hc5, hL⟩ := cl_un hL
  refine evB_callV_I (pc := 7) (M_Md_isPlan hc5) dX10_run_7 mt_Md_isPlan st_Md_isPlan ml_Md_425 hs1 (by decide) ⟨_, rfl, rfl⟩ (Nat.le_of_ble_eq_true rfl) rfl rfl (Nat.le_trans sm_z (by decide)) ?_
  refine ev_if_eq (pc := 10) (tgt := 30) dX10_run_10 rfl hL rfl (fun hL => ?_) (fun hL => ?_)
  · refine ev_ldc_w (pc := 30) (x := (-1000000)) dX10_run_30 w_c_Md_428 ?_
    exact evB_iret (pc := 33) dX10_run_33 rfl hL
  · refine ev_aload_n (pc := 13) (i := 0) dX10_run_13 rfl rfl ?_
    refine ev_get (pc := 14) (c9 := 10) (k9 := 26) dX10_run_14 fl_Md_294 (by decide) hs1 gv10_26 ?_
    refine ev_if_eq (pc := 17) (tgt := 30) dX10_run_17 rfl hL rfl (fun hL => ?_) (fun hL => ?_)
    · refine ev_ldc_w (pc := 30) (x := (-1000000)) dX10_run_30 w_c_Md_428 ?_
      exact evB_iret (pc := 33) dX10_run_33 rfl hL
    · refine ev_iload_n (pc := 20) (i := 2) dX10_run_20 rfl rfl ?_
      refine ev_i2l (pc := 21) dX10_run_21 ?_
      refine ev_lconst (pc := 22) (x := 0) dX10_run_22 rfl ?_
      refine ev_lconst (pc := 23) (x := 1) dX10_run_23 rfl ?_
      obtain ⟨r6, h7, hc8, hL⟩ := cl_un hL
      refine evB_callS_I (pc := 24) (M_Md_isIn hc8) dX10_run_24 mt_Md_isIn st_Md_isIn ml_Md_217 (Nat.le_of_ble_eq_true rfl) rfl rfl (Nat.le_trans sm_z (by decide)) ?_
      refine ev_if_ne (pc := 27) (tgt := 34) dX10_run_27 rfl hL rfl (fun hL => ?_) (fun hL => ?_)
      · refine ev_ldc_w (pc := 30) (x := (-1000000)) dX10_run_30 w_c_Md_428 ?_
        exact evB_iret (pc := 33) dX10_run_33 rfl hL
      · refine ev_aload_n (pc := 34) (i := 0) dX10_run_34 rfl rfl ?_
        refine ev_get (pc := 35) (c9 := 10) (k9 := 32) dX10_run_35 fl_Md_61 (by decide) hs1 (gv10_32 hs1) ?_
        refine ev_aload_n (pc := 38) (i := 0) dX10_run_38 rfl rfl ?_
        refine ev_get (pc := 39) (c9 := 10) (k9 := 33) dX10_run_39 fl_Md_64 (by decide) hs1 (gv10_33 hs1) ?_
        obtain ⟨r9, h10, hc11, hL⟩ := cl_un hL
        refine evB_callS_V (pc := 42) (M_Md_copy hc11) dX10_run_42 mt_Md_copy st_Md_copy ml_Md_429 (Nat.le_of_ble_eq_true rfl) rfl rfl (Nat.le_trans sm_z (by decide)) ?_
        refine ev_iconst (pc := 45) dX10_run_45 ?_
        refine ev_istore_n (pc := 46) (i := 3) dX10_run_46 rfl (lnl_v rfl rfl) (Nat.le_of_ble_eq_true rfl) ?_
        exact ev_le (lvle_s (lvle_s (lvle_s (lvle_s lvle_z)))) (KMd_run_b47  hL)
set_option maxHeartbeats 1000000 in
set_option maxRecDepth 100000 in
theorem M_Md_sentence {ω : Wd} {z : Nat → Prop} {h h' : Hp} {a0 a1 r : Int}  (hL : Md_sentence h a0 a1 = some (r, h')) : CtB ω N_Md_sentence 1306 [aV ω a0, iV a1] z h (some (iV r)) h' := by
  unfold Md_sentence at hL
  refine Ct_of (lv := [some (aV ω a0), some (iV a1)]) (by decide) (Nat.le_trans (sl_1 (cat_aV _ _) (sl_1 (cat_iV _) sl_z)) (Nat.le_of_ble_eq_true rfl)) (la_1 (cat_aV _ _) (la_1 (cat_iV _) la_z)) ?_
  refine ev_aload_n (pc := 0) (i := 0) dX10_sentence_0 rfl rfl ?_
  refine ev_iconst (pc := 1) dX10_sentence_1 ?_
  obtain ⟨hs1, hL⟩ := cC_un hL
  refine evB_putI (pc := 2) (c9 := 10) (k9 := 0) (kI := 0) dX10_sentence_2 fl_Md_96 hs1 (by decide) (fun q hq => by cases hq; rfl) rfl rfl rfl ?_
  refine ev_puG hL (fun h2 hL => ?_)
  refine ev_aload_n (pc := 5) (i := 0) dX10_sentence_5 rfl rfl ?_
  refine ev_aload_n (pc := 6) (i := 0) dX10_sentence_6 rfl rfl ?_
  refine ev_get (pc := 7) (c9 := 10) (k9 := 32) dX10_sentence_7 fl_Md_61 (by decide) hs1 (gv10_32 hs1) ?_
  refine ev_iload_n (pc := 10) (i := 1) dX10_sentence_10 rfl rfl ?_
  obtain ⟨r3, h4, hc5, hL⟩ := cl_un hL
  refine evB_callV_I (pc := 11) (M_Md_canSentence hc5) dX10_sentence_11 mt_Md_canSentence st_Md_canSentence ml_Md_380 hs1 (by decide) ⟨_, rfl, rfl⟩ (Nat.le_of_ble_eq_true rfl) rfl rfl (Nat.le_trans sm_z (by decide)) ?_
  refine ev_if_ne (pc := 14) (tgt := 19) dX10_sentence_14 rfl hL rfl (fun hL => ?_) (fun hL => ?_)
  · refine ev_iconst (pc := 17) dX10_sentence_17 ?_
    exact evB_iret (pc := 18) dX10_sentence_18 rfl hL
  · refine ev_aload_n (pc := 19) (i := 0) dX10_sentence_19 rfl rfl ?_
    obtain ⟨r6, h7, hc8, hL⟩ := cl_un hL
    refine evB_callV_V (pc := 20) (M_Md_remember hc8) dX10_sentence_20 mt_Md_remember st_Md_remember ml_Md_384 hs1 (by decide) ⟨_, rfl, rfl⟩ (Nat.le_of_ble_eq_true rfl) rfl rfl (Nat.le_trans sm_z (by decide)) ?_
    refine ev_aload_n (pc := 23) (i := 0) dX10_sentence_23 rfl rfl ?_
    refine ev_aload_n (pc := 24) (i := 0) dX10_sentence_24 rfl rfl ?_
    refine ev_get (pc := 25) (c9 := 10) (k9 := 32) dX10_sentence_25 fl_Md_61 (by decide) hs1 (gv10_32 hs1) ?_
    refine ev_iload_n (pc := 28) (i := 1) dX10_sentence_28 rfl rfl ?_
    obtain ⟨r9, h10, hc11, hL⟩ := cl_un hL
    refine evB_callV_V (pc := 29) (M_Md_sentences hc11) dX10_sentence_29 mt_Md_sentences st_Md_sentences ml_Md_387 hs1 (by decide) ⟨_, rfl, rfl⟩ (Nat.le_of_ble_eq_true rfl) rfl rfl (Nat.le_trans sm_z (by decide)) ?_
    refine ev_aload_n (pc := 32) (i := 0) dX10_sentence_32 rfl rfl ?_
    refine ev_get (pc := 33) (c9 := 10) (k9 := 32) dX10_sentence_33 fl_Md_61 (by decide) hs1 (gv10_32 hs1) ?_
    refine ev_aload_n (pc := 36) (i := 0) dX10_sentence_36 rfl rfl ?_
    refine ev_get (pc := 37) (c9 := 10) (k9 := 22) dX10_sentence_37 fl_Md_49 (by decide) hs1 (gv10_22 hs1) ?_
    refine ev_iconst (pc := 40) dX10_sentence_40 ?_
    refine ev_iload_n (pc := 41) (i := 1) dX10_sentence_41 rfl rfl ?_
    refine ev_imul (pc := 42) dX10_sentence_42 ?_
    obtain ⟨q12a, q12b, q12c, hL⟩ := cX_un hL
    refine ev_iald (pc := 43) dX10_sentence_43 q12a q12b q12c ?_
    refine ev_aload_n (pc := 44) (i := 0) dX10_sentence_44 rfl rfl ?_
    refine ev_get (pc := 45) (c9 := 10) (k9 := 22) dX10_sentence_45 fl_Md_49 (by decide) hs1 (gv10_22 hs1) ?_
    refine ev_iconst (pc := 48) dX10_sentence_48 ?_
    refine ev_iload_n (pc := 49) (i := 1) dX10_sentence_49 rfl rfl ?_
    refine ev_imul (pc := 50) dX10_sentence_50 ?_
    refine ev_iconst (pc := 51) dX10_sentence_51 ?_
    refine ev_iadd (pc := 52) dX10_sentence_52 ?_
    obtain ⟨q13a, q13b, q13c, hL⟩ := cX_un hL
    refine ev_iald (pc := 53) dX10_sentence_53 q13a q13b q13c ?_
    obtain ⟨r14, h15, hc16, hL⟩ := cl_un hL
    refine evB_callS_I (pc := 54) (M_Md_owes hc16) dX10_sentence_54 mt_Md_owes st_Md_owes ml_Md_312 (Nat.le_of_ble_eq_true rfl) rfl rfl (Nat.le_trans sm_z (by decide)) ?_
    exact evB_iret (pc := 57) dX10_sentence_57 rfl hL
set_option maxHeartbeats 1000000 in
set_option maxRecDepth 100000 in
theorem KMd_served_b27_body {ω : Wd} {z : Nat → Prop}  {k27 : Hp × Int × Int → Option (Int × Hp)} {h h' : Hp} {x0 x1 r : Int}  (hk27 : ∀ s o, k27 s = some o → EvB ω N_Md_served 5 (QB (some (iV o.1)) z o.2) z s.1 27 [some (aV ω s.2.1), some (iV s.2.2), none] []) (hL : Md_served_b27_body  k27 h x0 x1 = some (r, h')) : EvB ω N_Md_served 5 (QB (some (iV r)) z h') z h 27 [some (aV ω x0), some (iV x1), none] [] := by
  unfold Md_served_b27_body at hL
  refine ev_iload_n (pc := 27) (i := 1) dX10_served_27 rfl rfl ?_
  refine ev_bipush (pc := 28) dX10_served_28 (by decide) ?_
  refine ev_icmp_gt (pc := 30) (tgt := 62) dX10_served_30 rfl hL rfl (fun hL => ?_) (fun hL => ?_)
  · refine ev_iconst (pc := 62) dX10_served_62 ?_
    exact evB_iret (pc := 63) dX10_served_63 rfl hL
  · refine ev_aload_n (pc := 33) (i := 0) dX10_served_33 rfl rfl ?_
    refine ev_aload_n (pc := 34) (i := 0) dX10_served_34 rfl rfl ?_
    obtain ⟨hs6, hL⟩ := cC_un hL
    refine ev_get (pc := 35) (c9 := 10) (k9 := 33) dX10_served_35 fl_Md_64 (by decide) hs6 (gv10_33 hs6) ?_
    obtain ⟨r7, h8, hc9, hL⟩ := cl_un hL
    refine evB_callV_I (pc := 38) (M_Md_allOwed hc9) dX10_served_38 mt_Md_allOwed st_Md_allOwed ml_Md_360 hs6 (by decide) ⟨_, rfl, rfl⟩ (Nat.le_of_ble_eq_true rfl) rfl rfl (Nat.le_trans sm_z (by decide)) ?_
    refine ev_if_ne (pc := 41) (tgt := 46) dX10_served_41 rfl hL rfl (fun hL => ?_) (fun hL => ?_)
    · refine ev_iload_n (pc := 44) (i := 1) dX10_served_44 rfl rfl ?_
      exact evB_iret (pc := 45) dX10_served_45 rfl hL
    · refine ev_aload_n (pc := 46) (i := 0) dX10_served_46 rfl rfl ?_
      refine ev_aload_n (pc := 47) (i := 0) dX10_served_47 rfl rfl ?_
      refine ev_get (pc := 48) (c9 := 10) (k9 := 33) dX10_served_48 fl_Md_64 (by decide) hs6 (gv10_33 hs6) ?_
      refine ev_iconst (pc := 51) dX10_served_51 ?_
      obtain ⟨r10, h11, hc12, hL⟩ := cl_un hL
      refine evB_callV_I (pc := 52) (M_Md_goEvening hc12) dX10_served_52 mt_Md_goEvening st_Md_goEvening ml_Md_390 hs6 (by decide) ⟨_, rfl, rfl⟩ (Nat.le_of_ble_eq_true rfl) rfl rfl (Nat.le_trans sm_z (by decide)) ?_
      refine ev_istore_n (pc := 55) (i := 2) dX10_served_55 rfl (lnl_v rfl rfl) (Nat.le_of_ble_eq_true rfl) ?_
      refine ev_iinc (pc := 56) dX10_served_56 rfl (lnl_v (cat_aV _ _) rfl) (Nat.le_of_ble_eq_true rfl) ?_
      refine ev_goto (pc := 59) (tgt := 27) dX10_served_59 rfl ?_
      exact ev_le (lvle_s (lvle_s (lvle_n lvle_z))) (hk27 _ _ hL)
set_option maxHeartbeats 1000000 in
set_option maxRecDepth 100000 in
theorem KMd_served_b27 {ω : Wd} {z : Nat → Prop}  {h h' : Hp} {x0 x1 r : Int}  (hL : Md_served_b27 h x0 x1 = some (r, h')) : EvB ω N_Md_served 5 (QB (some (iV r)) z h') z h 27 [some (aV ω x0), some (iV x1), none] [] := by
  unfold Md_served_b27 at hL
  refine itr_link (P := fun (s : Hp × Int × Int) (o : Int × Hp) => EvB ω N_Md_served 5 (QB (some (iV o.1)) z o.2) z s.1 27 [some (aV ω s.2.1), some (iV s.2.2), none] []) ?_ _ _ _ hL
  intro k hk s o h9
  have h10 := KMd_served_b27_body (ω := ω) (z := z) (k27 := k) (h := s.1) (x0 := s.2.1) (x1 := s.2.2) (r := o.1) (h' := o.2) 
  exact h10 hk h9
set_option maxHeartbeats 1000000 in
set_option maxRecDepth 100000 in
theorem M_Md_served {ω : Wd} {z : Nat → Prop} {h h' : Hp} {a0 r : Int}  (hL : Md_served h a0 = some (r, h')) : CtB ω N_Md_served 5 [aV ω a0] z h (some (iV r)) h' := by
  unfold Md_served at hL
  refine Ct_of (lv := [some (aV ω a0), none, none]) (by decide) (Nat.le_trans (sl_1 (cat_aV _ _) sl_z) (Nat.le_of_ble_eq_true rfl)) (la_1 (cat_aV _ _) (la_n (la_n la_z))) ?_
  refine ev_aload_n (pc := 0) (i := 0) dX10_served_0 rfl rfl ?_
  refine ev_iconst (pc := 1) dX10_served_1 ?_
  obtain ⟨hs1, hL⟩ := cC_un hL
  refine evB_putI (pc := 2) (c9 := 10) (k9 := 0) (kI := 0) dX10_served_2 fl_Md_96 hs1 (by decide) (fun q hq => by cases hq; rfl) rfl rfl rfl ?_
  refine ev_puG hL (fun h2 hL => ?_)
  refine ev_aload_n (pc := 5) (i := 0) dX10_served_5 rfl rfl ?_
  refine ev_get (pc := 6) (c9 := 10) (k9 := 26) dX10_served_6 fl_Md_294 (by decide) hs1 gv10_26 ?_
  refine ev_if_ne (pc := 9) (tgt := 14) dX10_served_9 rfl hL rfl (fun hL => ?_) (fun hL => ?_)
  · refine ev_iconst (pc := 12) dX10_served_12 ?_
    exact evB_iret (pc := 13) dX10_served_13 rfl hL
  · refine ev_aload_n (pc := 14) (i := 0) dX10_served_14 rfl rfl ?_
    refine ev_get (pc := 15) (c9 := 10) (k9 := 32) dX10_served_15 fl_Md_61 (by decide) hs1 (gv10_32 hs1) ?_
    refine ev_aload_n (pc := 18) (i := 0) dX10_served_18 rfl rfl ?_
    refine ev_get (pc := 19) (c9 := 10) (k9 := 33) dX10_served_19 fl_Md_64 (by decide) hs1 (gv10_33 hs1) ?_
    obtain ⟨r3, h4, hc5, hL⟩ := cl_un hL
    refine evB_callS_V (pc := 22) (M_Md_copy hc5) dX10_served_22 mt_Md_copy st_Md_copy ml_Md_429 (Nat.le_of_ble_eq_true rfl) rfl rfl (Nat.le_trans sm_z (by decide)) ?_
    refine ev_iconst (pc := 25) dX10_served_25 ?_
    refine ev_istore_n (pc := 26) (i := 1) dX10_served_26 rfl (lnl_v (cat_aV _ _) rfl) (Nat.le_of_ble_eq_true rfl) ?_
    exact ev_le (lvle_s (lvle_s (lvle_n lvle_z))) (KMd_served_b27  hL)
set_option maxHeartbeats 1000000 in
set_option maxRecDepth 100000 in
theorem M_Md_sin {ω : Wd} {z : Nat → Prop} {h h' : Hp} {a0 a1 r : Int}  (hL : Md_sin h a0 a1 = some (r, h')) : CtB ω N_Md_sin 2 [aV ω a0, iV a1] z h (some (iV r)) h' := by
  unfold Md_sin at hL
  refine Ct_of (lv := [some (aV ω a0), some (iV a1)]) (by decide) (Nat.le_trans (sl_1 (cat_aV _ _) (sl_1 (cat_iV _) sl_z)) (Nat.le_of_ble_eq_true rfl)) (la_1 (cat_aV _ _) (la_1 (cat_iV _) la_z)) ?_
  refine ev_aload_n (pc := 0) (i := 0) dX10_sin_0 rfl rfl ?_
  refine ev_iconst (pc := 1) dX10_sin_1 ?_
  obtain ⟨hs1, hL⟩ := cC_un hL
  refine evB_putI (pc := 2) (c9 := 10) (k9 := 0) (kI := 0) dX10_sin_2 fl_Md_96 hs1 (by decide) (fun q hq => by cases hq; rfl) rfl rfl rfl ?_
  refine ev_puG hL (fun h2 hL => ?_)
  refine ev_iload_n (pc := 5) (i := 1) dX10_sin_5 rfl rfl ?_
  refine ev_i2l (pc := 6) dX10_sin_6 ?_
  refine ev_lconst (pc := 7) (x := 0) dX10_sin_7 rfl ?_
  refine ev_ldc2 (pc := 8) (x := 9) dX10_sin_8 w_l_Md_378 ?_
  obtain ⟨r3, h4, hc5, hL⟩ := cl_un hL
  refine evB_callS_I (pc := 11) (M_Md_isIn hc5) dX10_sin_11 mt_Md_isIn st_Md_isIn ml_Md_217 (Nat.le_of_ble_eq_true rfl) rfl rfl (Nat.le_trans sm_z (by decide)) ?_
  refine ev_if_eq (pc := 14) (tgt := 25) dX10_sin_14 rfl hL rfl (fun hL => ?_) (fun hL => ?_)
  · refine ev_iconst (pc := 25) dX10_sin_25 ?_
    exact evB_zret (pc := 26) dX10_sin_26 rfl rfl hL
  · refine ev_iload_n (pc := 17) (i := 1) dX10_sin_17 rfl rfl ?_
    refine ev_aload_n (pc := 18) (i := 0) dX10_sin_18 rfl rfl ?_
    refine ev_get (pc := 19) (c9 := 10) (k9 := 35) dX10_sin_19 fl_Md_71 (by decide) hs1 gv10_35 ?_
    refine ev_icmp_ne (pc := 22) (tgt := 27) dX10_sin_22 rfl hL rfl (fun hL => ?_) (fun hL => ?_)
    · refine ev_iconst (pc := 25) dX10_sin_25 ?_
      exact evB_zret (pc := 26) dX10_sin_26 rfl rfl hL
    · refine ev_aload_n (pc := 27) (i := 0) dX10_sin_27 rfl rfl ?_
      refine ev_iload_n (pc := 28) (i := 1) dX10_sin_28 rfl rfl ?_
      refine evB_putI (pc := 29) (c9 := 10) (k9 := 35) (kI := 35) dX10_sin_29 fl_Md_71 hs1 (by decide) (fun q hq => by cases hq; rfl) rfl rfl rfl ?_
      refine ev_puG hL (fun h6 hL => ?_)
      refine ev_iconst (pc := 32) dX10_sin_32 ?_
      exact evB_zret (pc := 33) dX10_sin_33 rfl rfl hL
set_option maxHeartbeats 1000000 in
set_option maxRecDepth 100000 in
theorem KMd_sooner_b67_body {ω : Wd} {z : Nat → Prop} {k18 : Hp × Int × Int × Int → Option (Int × Hp)} {k52 : Hp × Int × Int × Int × Int × Int × Int → Option (Int × Hp)} {k67 : Hp × Int × Int × Int × Int × Int × Int × Int → Option (Int × Hp)} {h h' : Hp} {x0 x1 x2 x3 x4 x5 x6 r : Int} (hk18 : ∀ s o, k18 s = some o → EvB ω N_Md_sooner 3 (QB (some (iV o.1)) z o.2) z s.1 18 [some (aV ω s.2.1), some (iV s.2.2.1), some (iV s.2.2.2), none, none, none, none] []) (hk52 : ∀ s o, k52 s = some o → EvB ω N_Md_sooner 3 (QB (some (iV o.1)) z o.2) z s.1 52 [some (aV ω s.2.1), some (iV s.2.2.1), some (iV s.2.2.2.1), some (iV s.2.2.2.2.1), some (iV s.2.2.2.2.2.1), some (iV s.2.2.2.2.2.2), none] []) (hk67 : ∀ s o, k67 s = some o → EvB ω N_Md_sooner 3 (QB (some (iV o.1)) z o.2) z s.1 67 [some (aV ω s.2.1), some (iV s.2.2.1), some (iV s.2.2.2.1), some (iV s.2.2.2.2.1), some (iV s.2.2.2.2.2.1), some (iV s.2.2.2.2.2.2.1), some (iV s.2.2.2.2.2.2.2)] []) (hL : Md_sooner_b67_body k18 k52 k67 h x0 x1 x2 x3 x4 x5 x6 = some (r, h')) : EvB ω N_Md_sooner 3 (QB (some (iV r)) z h') z h 67 [some (aV ω x0), some (iV x1), some (iV x2), some (iV x3), some (iV x4), some (iV x5), some (iV x6)] [] := by
  unfold Md_sooner_b67_body at hL
  refine ev_iload (pc := 67) dX10_sooner_67 rfl ?_
  refine ev_aload_n (pc := 69) (i := 0) dX10_sooner_69 rfl rfl ?_
  obtain ⟨hs9, hL⟩ := cC_un hL
  refine ev_get (pc := 70) (c9 := 10) (k9 := 26) dX10_sooner_70 fl_Md_294 (by decide) hs9 gv10_26 ?_
  refine ev_icmp_ge (pc := 73) (tgt := 120) dX10_sooner_73 rfl hL rfl (fun hL => ?_) (fun hL => ?_)
  · refine ev_iload (pc := 76) dX10_sooner_76 rfl ?_
    refine ev_iload_n (pc := 78) (i := 2) dX10_sooner_78 rfl rfl ?_
    refine ev_iload (pc := 79) dX10_sooner_79 rfl ?_
    obtain ⟨r10, h11, hc12, hL⟩ := cl_un hL
    refine evB_callS_I (pc := 81) (M_Md_has hc12) dX10_sooner_81 mt_Md_has st_Md_has ml_Md_229 (Nat.le_of_ble_eq_true rfl) rfl rfl (Nat.le_trans (sm_1 (cat_iV _) sm_z) (by decide)) ?_
    refine ev_if_eq (pc := 84) (tgt := 110) dX10_sooner_84 rfl hL rfl (fun hL => ?_) (fun hL => ?_)
    · refine ev_iconst (pc := 110) dX10_sooner_110 ?_
      refine ev_iadd (pc := 111) dX10_sooner_111 ?_
      refine ev_bdI hL (fun v13 hL => ?_)
      refine ev_istore (pc := 112) dX10_sooner_112 (lnl_v rfl rfl) (Nat.le_of_ble_eq_true rfl) ?_
      refine ev_iinc (pc := 114) dX10_sooner_114 rfl (lnl_v rfl rfl) (Nat.le_of_ble_eq_true rfl) ?_
      refine ev_goto (pc := 117) (tgt := 67) dX10_sooner_117 rfl ?_
      exact ev_le (lvle_s (lvle_s (lvle_s (lvle_s (lvle_s (lvle_s (lvle_s lvle_z))))))) (hk67 _ _ hL)
    · refine ev_iload_n (pc := 87) (i := 2) dX10_sooner_87 rfl rfl ?_
      refine ev_iload (pc := 88) dX10_sooner_88 rfl ?_
      obtain ⟨r14, h15, hc16, hL⟩ := cl_un hL
      refine evB_callS_I (pc := 90) (M_Md_has hc16) dX10_sooner_90 mt_Md_has st_Md_has ml_Md_229 (Nat.le_of_ble_eq_true rfl) rfl rfl (Nat.le_trans (sm_1 (cat_iV _) sm_z) (by decide)) ?_
      refine ev_if_eq (pc := 93) (tgt := 110) dX10_sooner_93 rfl hL rfl (fun hL => ?_) (fun hL => ?_)
      · refine ev_iconst (pc := 110) dX10_sooner_110 ?_
        refine ev_iadd (pc := 111) dX10_sooner_111 ?_
        refine ev_bdI hL (fun v17 hL => ?_)
        refine ev_istore (pc := 112) dX10_sooner_112 (lnl_v rfl rfl) (Nat.le_of_ble_eq_true rfl) ?_
        refine ev_iinc (pc := 114) dX10_sooner_114 rfl (lnl_v rfl rfl) (Nat.le_of_ble_eq_true rfl) ?_
        refine ev_goto (pc := 117) (tgt := 67) dX10_sooner_117 rfl ?_
        exact ev_le (lvle_s (lvle_s (lvle_s (lvle_s (lvle_s (lvle_s (lvle_s lvle_z))))))) (hk67 _ _ hL)
      · refine ev_aload_n (pc := 96) (i := 0) dX10_sooner_96 rfl rfl ?_
        refine ev_get (pc := 97) (c9 := 10) (k9 := 32) dX10_sooner_97 fl_Md_61 (by decide) hs9 (gv10_32 hs9) ?_
        refine ev_iload (pc := 100) dX10_sooner_100 rfl ?_
        refine ev_iload (pc := 102) dX10_sooner_102 rfl ?_
        obtain ⟨r18, h19, hc20, hL⟩ := cl_un hL
        refine evB_callS_I (pc := 104) (M_Md_owes hc20) dX10_sooner_104 mt_Md_owes st_Md_owes ml_Md_312 (Nat.le_of_ble_eq_true rfl) rfl rfl (Nat.le_trans (sm_1 (cat_iV _) sm_z) (by decide)) ?_
        refine ev_goto (pc := 107) (tgt := 111) dX10_sooner_107 rfl ?_
        refine ev_iadd (pc := 111) dX10_sooner_111 ?_
        refine ev_bdI hL (fun v21 hL => ?_)
        refine ev_istore (pc := 112) dX10_sooner_112 (lnl_v rfl rfl) (Nat.le_of_ble_eq_true rfl) ?_
        refine ev_iinc (pc := 114) dX10_sooner_114 rfl (lnl_v rfl rfl) (Nat.le_of_ble_eq_true rfl) ?_
        refine ev_goto (pc := 117) (tgt := 67) dX10_sooner_117 rfl ?_
        exact ev_le (lvle_s (lvle_s (lvle_s (lvle_s (lvle_s (lvle_s (lvle_s lvle_z))))))) (hk67 _ _ hL)
  · refine ev_iinc (pc := 120) dX10_sooner_120 rfl (lnl_v rfl rfl) (Nat.le_of_ble_eq_true rfl) ?_
    refine ev_goto (pc := 123) (tgt := 52) dX10_sooner_123 rfl ?_
    exact ev_le (lvle_s (lvle_s (lvle_s (lvle_s (lvle_s (lvle_s (lvle_n lvle_z))))))) (hk52 _ _ hL)
set_option maxHeartbeats 1000000 in
set_option maxRecDepth 100000 in
theorem KMd_sooner_b67 {ω : Wd} {z : Nat → Prop} {k18 : Hp × Int × Int × Int → Option (Int × Hp)} {k52 : Hp × Int × Int × Int × Int × Int × Int → Option (Int × Hp)} {h h' : Hp} {x0 x1 x2 x3 x4 x5 x6 r : Int} (hk18 : ∀ s o, k18 s = some o → EvB ω N_Md_sooner 3 (QB (some (iV o.1)) z o.2) z s.1 18 [some (aV ω s.2.1), some (iV s.2.2.1), some (iV s.2.2.2), none, none, none, none] []) (hk52 : ∀ s o, k52 s = some o → EvB ω N_Md_sooner 3 (QB (some (iV o.1)) z o.2) z s.1 52 [some (aV ω s.2.1), some (iV s.2.2.1), some (iV s.2.2.2.1), some (iV s.2.2.2.2.1), some (iV s.2.2.2.2.2.1), some (iV s.2.2.2.2.2.2), none] []) (hL : Md_sooner_b67 k18 k52 h x0 x1 x2 x3 x4 x5 x6 = some (r, h')) : EvB ω N_Md_sooner 3 (QB (some (iV r)) z h') z h 67 [some (aV ω x0), some (iV x1), some (iV x2), some (iV x3), some (iV x4), some (iV x5), some (iV x6)] [] := by
  unfold Md_sooner_b67 at hL
  refine itr_link (P := fun (s : Hp × Int × Int × Int × Int × Int × Int × Int) (o : Int × Hp) => EvB ω N_Md_sooner 3 (QB (some (iV o.1)) z o.2) z s.1 67 [some (aV ω s.2.1), some (iV s.2.2.1), some (iV s.2.2.2.1), some (iV s.2.2.2.2.1), some (iV s.2.2.2.2.2.1), some (iV s.2.2.2.2.2.2.1), some (iV s.2.2.2.2.2.2.2)] []) ?_ _ _ _ hL
  intro k hk s o h9
  have h10 := KMd_sooner_b67_body (ω := ω) (z := z) (k18 := k18) (k52 := k52) (k67 := k) (h := s.1) (x0 := s.2.1) (x1 := s.2.2.1) (x2 := s.2.2.2.1) (x3 := s.2.2.2.2.1) (x4 := s.2.2.2.2.2.1) (x5 := s.2.2.2.2.2.2.1) (x6 := s.2.2.2.2.2.2.2) (r := o.1) (h' := o.2) hk18 hk52
  exact h10 hk h9
set_option maxHeartbeats 1000000 in
set_option maxRecDepth 100000 in
theorem KMd_sooner_b143 {ω : Wd} {z : Nat → Prop} {k18 : Hp × Int × Int × Int → Option (Int × Hp)} {h h' : Hp} {x0 x2 y0 y1 r : Int} (hk18 : ∀ s o, k18 s = some o → EvB ω N_Md_sooner 3 (QB (some (iV o.1)) z o.2) z s.1 18 [some (aV ω s.2.1), some (iV s.2.2.1), some (iV s.2.2.2), none, none, none, none] []) (hL : Md_sooner_b143 k18 h x0 x2 y0 y1 = some (r, h')) : EvB ω N_Md_sooner 3 (QB (some (iV r)) z h') z h 143 [some (aV ω x0), none, some (iV x2), none, none, none, none] [iV y1, iV y0] := by
  unfold Md_sooner_b143 at hL
  refine ev_max (pc := 143) dX10_sooner_143 wm_Md_332 w_s_max w_i_Math w_k_max (Nat.le_trans sm_z (by decide)) (Nat.le_of_ble_eq_true rfl) (Nat.le_refl _) (Nat.le_refl _) ?_
  refine ev_bdI hL (fun v22 hL => ?_)
  refine ev_istore_n (pc := 146) (i := 1) dX10_sooner_146 rfl (lnl_v (cat_aV _ _) rfl) (Nat.le_of_ble_eq_true rfl) ?_
  refine ev_iinc (pc := 147) dX10_sooner_147 rfl (lnl_v rfl rfl) (Nat.le_of_ble_eq_true rfl) ?_
  refine ev_goto (pc := 150) (tgt := 18) dX10_sooner_150 rfl ?_
  exact ev_le (lvle_s (lvle_s (lvle_s (lvle_n (lvle_n (lvle_n (lvle_n lvle_z))))))) (hk18 _ _ hL)
set_option maxHeartbeats 1000000 in
set_option maxRecDepth 100000 in
theorem KMd_sooner_b52_body {ω : Wd} {z : Nat → Prop} {k18 : Hp × Int × Int × Int → Option (Int × Hp)} {k52 : Hp × Int × Int × Int × Int × Int × Int → Option (Int × Hp)} {h h' : Hp} {x0 x1 x2 x3 x4 x5 r : Int} (hk18 : ∀ s o, k18 s = some o → EvB ω N_Md_sooner 3 (QB (some (iV o.1)) z o.2) z s.1 18 [some (aV ω s.2.1), some (iV s.2.2.1), some (iV s.2.2.2), none, none, none, none] []) (hk52 : ∀ s o, k52 s = some o → EvB ω N_Md_sooner 3 (QB (some (iV o.1)) z o.2) z s.1 52 [some (aV ω s.2.1), some (iV s.2.2.1), some (iV s.2.2.2.1), some (iV s.2.2.2.2.1), some (iV s.2.2.2.2.2.1), some (iV s.2.2.2.2.2.2), none] []) (hL : Md_sooner_b52_body k18 k52 h x0 x1 x2 x3 x4 x5 = some (r, h')) : EvB ω N_Md_sooner 3 (QB (some (iV r)) z h') z h 52 [some (aV ω x0), some (iV x1), some (iV x2), some (iV x3), some (iV x4), some (iV x5), none] [] := by
  unfold Md_sooner_b52_body at hL
  refine ev_iload (pc := 52) dX10_sooner_52 rfl ?_
  refine ev_aload_n (pc := 54) (i := 0) dX10_sooner_54 rfl rfl ?_
  obtain ⟨hs7, hL⟩ := cC_un hL
  refine ev_get (pc := 55) (c9 := 10) (k9 := 26) dX10_sooner_55 fl_Md_294 (by decide) hs7 gv10_26 ?_
  refine ev_icmp_ge (pc := 58) (tgt := 126) dX10_sooner_58 rfl hL rfl (fun hL => ?_) (fun hL => ?_)
  · refine ev_iload (pc := 61) dX10_sooner_61 rfl ?_
    refine ev_iconst (pc := 63) dX10_sooner_63 ?_
    refine ev_iadd (pc := 64) dX10_sooner_64 ?_
    refine ev_bdI hL (fun v8 hL => ?_)
    refine ev_istore (pc := 65) dX10_sooner_65 (lnl_v rfl rfl) (Nat.le_of_ble_eq_true rfl) ?_
    exact ev_le (lvle_s (lvle_s (lvle_s (lvle_s (lvle_s (lvle_s (lvle_s lvle_z))))))) (KMd_sooner_b67 hk18 hk52 hL)
  · refine ev_iload_n (pc := 126) (i := 1) dX10_sooner_126 rfl rfl ?_
    refine ev_iload_n (pc := 127) (i := 3) dX10_sooner_127 rfl rfl ?_
    refine ev_iconst (pc := 128) dX10_sooner_128 ?_
    refine ev_icmp_ne (pc := 129) (tgt := 137) dX10_sooner_129 rfl hL rfl (fun hL => ?_) (fun hL => ?_)
    · refine ev_iload (pc := 132) dX10_sooner_132 rfl ?_
      refine ev_goto (pc := 134) (tgt := 143) dX10_sooner_134 rfl ?_
      exact ev_le (lvle_s (lvle_n (lvle_s (lvle_n (lvle_n (lvle_n (lvle_n lvle_z))))))) (KMd_sooner_b143 hk18 hL)
    · refine ev_iload (pc := 137) dX10_sooner_137 rfl ?_
      refine ev_iconst (pc := 139) dX10_sooner_139 ?_
      refine ev_iadd (pc := 140) dX10_sooner_140 ?_
      refine ev_iconst (pc := 141) dX10_sooner_141 ?_
      refine ev_idiv (pc := 142) dX10_sooner_142 hL (fun hL => ?_)
      exact ev_le (lvle_s (lvle_n (lvle_s (lvle_n (lvle_n (lvle_n (lvle_n lvle_z))))))) (KMd_sooner_b143 hk18 hL)
set_option maxHeartbeats 1000000 in
set_option maxRecDepth 100000 in
theorem KMd_sooner_b52 {ω : Wd} {z : Nat → Prop} {k18 : Hp × Int × Int × Int → Option (Int × Hp)} {h h' : Hp} {x0 x1 x2 x3 x4 x5 r : Int} (hk18 : ∀ s o, k18 s = some o → EvB ω N_Md_sooner 3 (QB (some (iV o.1)) z o.2) z s.1 18 [some (aV ω s.2.1), some (iV s.2.2.1), some (iV s.2.2.2), none, none, none, none] []) (hL : Md_sooner_b52 k18 h x0 x1 x2 x3 x4 x5 = some (r, h')) : EvB ω N_Md_sooner 3 (QB (some (iV r)) z h') z h 52 [some (aV ω x0), some (iV x1), some (iV x2), some (iV x3), some (iV x4), some (iV x5), none] [] := by
  unfold Md_sooner_b52 at hL
  refine itr_link (P := fun (s : Hp × Int × Int × Int × Int × Int × Int) (o : Int × Hp) => EvB ω N_Md_sooner 3 (QB (some (iV o.1)) z o.2) z s.1 52 [some (aV ω s.2.1), some (iV s.2.2.1), some (iV s.2.2.2.1), some (iV s.2.2.2.2.1), some (iV s.2.2.2.2.2.1), some (iV s.2.2.2.2.2.2), none] []) ?_ _ _ _ hL
  intro k hk s o h9
  have h10 := KMd_sooner_b52_body (ω := ω) (z := z) (k18 := k18) (k52 := k) (h := s.1) (x0 := s.2.1) (x1 := s.2.2.1) (x2 := s.2.2.2.1) (x3 := s.2.2.2.2.1) (x4 := s.2.2.2.2.2.1) (x5 := s.2.2.2.2.2.2) (r := o.1) (h' := o.2) hk18
  exact h10 hk h9
set_option maxHeartbeats 1000000 in
set_option maxRecDepth 100000 in
theorem KMd_sooner_b155_body {ω : Wd} {z : Nat → Prop}  {k155 : Hp × Int × Int × Int → Option (Int × Hp)} {h h' : Hp} {x0 x1 x2 r : Int}  (hk155 : ∀ s o, k155 s = some o → EvB ω N_Md_sooner 3 (QB (some (iV o.1)) z o.2) z s.1 155 [some (aV ω s.2.1), some (iV s.2.2.1), some (iV s.2.2.2), none, none, none, none] []) (hL : Md_sooner_b155_body  k155 h x0 x1 x2 = some (r, h')) : EvB ω N_Md_sooner 3 (QB (some (iV r)) z h') z h 155 [some (aV ω x0), some (iV x1), some (iV x2), none, none, none, none] [] := by
  unfold Md_sooner_b155_body at hL
  refine ev_iload_n (pc := 155) (i := 2) dX10_sooner_155 rfl rfl ?_
  refine ev_aload_n (pc := 156) (i := 0) dX10_sooner_156 rfl rfl ?_
  obtain ⟨hs23, hL⟩ := cC_un hL
  refine ev_get (pc := 157) (c9 := 10) (k9 := 26) dX10_sooner_157 fl_Md_294 (by decide) hs23 gv10_26 ?_
  refine ev_icmp_ge (pc := 160) (tgt := 179) dX10_sooner_160 rfl hL rfl (fun hL => ?_) (fun hL => ?_)
  · refine ev_iload_n (pc := 163) (i := 1) dX10_sooner_163 rfl rfl ?_
    refine ev_aload_n (pc := 164) (i := 0) dX10_sooner_164 rfl rfl ?_
    refine ev_iload_n (pc := 165) (i := 2) dX10_sooner_165 rfl rfl ?_
    obtain ⟨r24, h25, hc26, hL⟩ := cl_un hL
    refine evB_callV_I (pc := 166) (M_Md_owesInAll hc26) dX10_sooner_166 mt_Md_owesInAll st_Md_owesInAll ml_Md_366 hs23 (by decide) ⟨_, rfl, rfl⟩ (Nat.le_of_ble_eq_true rfl) rfl rfl (Nat.le_trans (sm_1 (cat_iV _) sm_z) (by decide)) ?_
    refine ev_max (pc := 169) dX10_sooner_169 wm_Md_332 w_s_max w_i_Math w_k_max (Nat.le_trans sm_z (by decide)) (Nat.le_of_ble_eq_true rfl) (Nat.le_refl _) (Nat.le_refl _) ?_
    refine ev_bdI hL (fun v27 hL => ?_)
    refine ev_istore_n (pc := 172) (i := 1) dX10_sooner_172 rfl (lnl_v (cat_aV _ _) rfl) (Nat.le_of_ble_eq_true rfl) ?_
    refine ev_iinc (pc := 173) dX10_sooner_173 rfl (lnl_v rfl rfl) (Nat.le_of_ble_eq_true rfl) ?_
    refine ev_goto (pc := 176) (tgt := 155) dX10_sooner_176 rfl ?_
    exact ev_le (lvle_s (lvle_s (lvle_s (lvle_n (lvle_n (lvle_n (lvle_n lvle_z))))))) (hk155 _ _ hL)
  · refine ev_iload_n (pc := 179) (i := 1) dX10_sooner_179 rfl rfl ?_
    exact evB_iret (pc := 180) dX10_sooner_180 rfl hL
set_option maxHeartbeats 1000000 in
set_option maxRecDepth 100000 in
theorem KMd_sooner_b155 {ω : Wd} {z : Nat → Prop}  {h h' : Hp} {x0 x1 x2 r : Int}  (hL : Md_sooner_b155 h x0 x1 x2 = some (r, h')) : EvB ω N_Md_sooner 3 (QB (some (iV r)) z h') z h 155 [some (aV ω x0), some (iV x1), some (iV x2), none, none, none, none] [] := by
  unfold Md_sooner_b155 at hL
  refine itr_link (P := fun (s : Hp × Int × Int × Int) (o : Int × Hp) => EvB ω N_Md_sooner 3 (QB (some (iV o.1)) z o.2) z s.1 155 [some (aV ω s.2.1), some (iV s.2.2.1), some (iV s.2.2.2), none, none, none, none] []) ?_ _ _ _ hL
  intro k hk s o h9
  have h10 := KMd_sooner_b155_body (ω := ω) (z := z) (k155 := k) (h := s.1) (x0 := s.2.1) (x1 := s.2.2.1) (x2 := s.2.2.2) (r := o.1) (h' := o.2) 
  exact h10 hk h9
set_option maxHeartbeats 1000000 in
set_option maxRecDepth 100000 in
theorem KMd_sooner_b18_body {ω : Wd} {z : Nat → Prop}  {k18 : Hp × Int × Int × Int → Option (Int × Hp)} {h h' : Hp} {x0 x1 x2 r : Int}  (hk18 : ∀ s o, k18 s = some o → EvB ω N_Md_sooner 3 (QB (some (iV o.1)) z o.2) z s.1 18 [some (aV ω s.2.1), some (iV s.2.2.1), some (iV s.2.2.2), none, none, none, none] []) (hL : Md_sooner_b18_body  k18 h x0 x1 x2 = some (r, h')) : EvB ω N_Md_sooner 3 (QB (some (iV r)) z h') z h 18 [some (aV ω x0), some (iV x1), some (iV x2), none, none, none, none] [] := by
  unfold Md_sooner_b18_body at hL
  refine ev_iload_n (pc := 18) (i := 2) dX10_sooner_18 rfl rfl ?_
  refine ev_iconst (pc := 19) dX10_sooner_19 ?_
  refine ev_aload_n (pc := 20) (i := 0) dX10_sooner_20 rfl rfl ?_
  obtain ⟨hs3, hL⟩ := cC_un hL
  refine ev_get (pc := 21) (c9 := 10) (k9 := 26) dX10_sooner_21 fl_Md_294 (by decide) hs3 gv10_26 ?_
  refine ev_ishl (pc := 24) dX10_sooner_24 ?_
  refine ev_icmp_ge (pc := 25) (tgt := 153) dX10_sooner_25 rfl hL rfl (fun hL => ?_) (fun hL => ?_)
  · refine ev_iload_n (pc := 28) (i := 2) dX10_sooner_28 rfl rfl ?_
    obtain ⟨r4, h5, hc6, hL⟩ := cl_un hL
    refine evB_callS_I (pc := 29) (M_Ji_bitCount hc6) dX10_sooner_29 mt_Ji_bitCount st_Ji_bitCount ml_Md_442 (Nat.le_of_ble_eq_true rfl) rfl rfl (Nat.le_trans sm_z (by decide)) ?_
    refine ev_istore_n (pc := 32) (i := 3) dX10_sooner_32 rfl (lnl_v rfl rfl) (Nat.le_of_ble_eq_true rfl) ?_
    refine ev_iload_n (pc := 33) (i := 3) dX10_sooner_33 rfl rfl ?_
    refine ev_iconst (pc := 34) dX10_sooner_34 ?_
    refine ev_icmp_eq (pc := 35) (tgt := 46) dX10_sooner_35 rfl hL rfl (fun hL => ?_) (fun hL => ?_)
    · refine ev_iconst (pc := 46) dX10_sooner_46 ?_
      refine ev_istore (pc := 47) dX10_sooner_47 (lnl_v rfl rfl) (Nat.le_of_ble_eq_true rfl) ?_
      refine ev_iconst (pc := 49) dX10_sooner_49 ?_
      refine ev_istore (pc := 50) dX10_sooner_50 (lnl_v rfl rfl) (Nat.le_of_ble_eq_true rfl) ?_
      exact ev_le (lvle_s (lvle_s (lvle_s (lvle_s (lvle_s (lvle_s (lvle_n lvle_z))))))) (KMd_sooner_b52 hk18 hL)
    · refine ev_iload_n (pc := 38) (i := 3) dX10_sooner_38 rfl rfl ?_
      refine ev_iconst (pc := 39) dX10_sooner_39 ?_
      refine ev_icmp_eq (pc := 40) (tgt := 46) dX10_sooner_40 rfl hL rfl (fun hL => ?_) (fun hL => ?_)
      · refine ev_iconst (pc := 46) dX10_sooner_46 ?_
        refine ev_istore (pc := 47) dX10_sooner_47 (lnl_v rfl rfl) (Nat.le_of_ble_eq_true rfl) ?_
        refine ev_iconst (pc := 49) dX10_sooner_49 ?_
        refine ev_istore (pc := 50) dX10_sooner_50 (lnl_v rfl rfl) (Nat.le_of_ble_eq_true rfl) ?_
        exact ev_le (lvle_s (lvle_s (lvle_s (lvle_s (lvle_s (lvle_s (lvle_n lvle_z))))))) (KMd_sooner_b52 hk18 hL)
      · refine ev_goto (pc := 43) (tgt := 147) dX10_sooner_43 rfl ?_
        refine ev_iinc (pc := 147) dX10_sooner_147 rfl (lnl_v rfl rfl) (Nat.le_of_ble_eq_true rfl) ?_
        refine ev_goto (pc := 150) (tgt := 18) dX10_sooner_150 rfl ?_
        exact ev_le (lvle_s (lvle_s (lvle_s (lvle_n (lvle_n (lvle_n (lvle_n lvle_z))))))) (hk18 _ _ hL)
  · refine ev_iconst (pc := 153) dX10_sooner_153 ?_
    refine ev_istore_n (pc := 154) (i := 2) dX10_sooner_154 rfl (lnl_v rfl rfl) (Nat.le_of_ble_eq_true rfl) ?_
    exact ev_le (lvle_s (lvle_s (lvle_s (lvle_n (lvle_n (lvle_n (lvle_n lvle_z))))))) (KMd_sooner_b155  hL)
set_option maxHeartbeats 1000000 in
set_option maxRecDepth 100000 in
theorem KMd_sooner_b18 {ω : Wd} {z : Nat → Prop}  {h h' : Hp} {x0 x1 x2 r : Int}  (hL : Md_sooner_b18 h x0 x1 x2 = some (r, h')) : EvB ω N_Md_sooner 3 (QB (some (iV r)) z h') z h 18 [some (aV ω x0), some (iV x1), some (iV x2), none, none, none, none] [] := by
  unfold Md_sooner_b18 at hL
  refine itr_link (P := fun (s : Hp × Int × Int × Int) (o : Int × Hp) => EvB ω N_Md_sooner 3 (QB (some (iV o.1)) z o.2) z s.1 18 [some (aV ω s.2.1), some (iV s.2.2.1), some (iV s.2.2.2), none, none, none, none] []) ?_ _ _ _ hL
  intro k hk s o h9
  have h10 := KMd_sooner_b18_body (ω := ω) (z := z) (k18 := k) (h := s.1) (x0 := s.2.1) (x1 := s.2.2.1) (x2 := s.2.2.2) (r := o.1) (h' := o.2) 
  exact h10 hk h9
set_option maxHeartbeats 1000000 in
set_option maxRecDepth 100000 in
theorem M_Md_sooner {ω : Wd} {z : Nat → Prop} {h h' : Hp} {a0 r : Int}  (hL : Md_sooner h a0 = some (r, h')) : CtB ω N_Md_sooner 3 [aV ω a0] z h (some (iV r)) h' := by
  unfold Md_sooner at hL
  refine Ct_of (lv := [some (aV ω a0), none, none, none, none, none, none]) (by decide) (Nat.le_trans (sl_1 (cat_aV _ _) sl_z) (Nat.le_of_ble_eq_true rfl)) (la_1 (cat_aV _ _) (la_n (la_n (la_n (la_n (la_n (la_n la_z))))))) ?_
  refine ev_aload_n (pc := 0) (i := 0) dX10_sooner_0 rfl rfl ?_
  refine ev_iconst (pc := 1) dX10_sooner_1 ?_
  obtain ⟨hs1, hL⟩ := cC_un hL
  refine evB_putI (pc := 2) (c9 := 10) (k9 := 0) (kI := 0) dX10_sooner_2 fl_Md_96 hs1 (by decide) (fun q hq => by cases hq; rfl) rfl rfl rfl ?_
  refine ev_puG hL (fun h2 hL => ?_)
  refine ev_aload_n (pc := 5) (i := 0) dX10_sooner_5 rfl rfl ?_
  refine ev_get (pc := 6) (c9 := 10) (k9 := 26) dX10_sooner_6 fl_Md_294 (by decide) hs1 gv10_26 ?_
  refine ev_if_ne (pc := 9) (tgt := 14) dX10_sooner_9 rfl hL rfl (fun hL => ?_) (fun hL => ?_)
  · refine ev_iconst (pc := 12) dX10_sooner_12 ?_
    exact evB_iret (pc := 13) dX10_sooner_13 rfl hL
  · refine ev_iconst (pc := 14) dX10_sooner_14 ?_
    refine ev_istore_n (pc := 15) (i := 1) dX10_sooner_15 rfl (lnl_v (cat_aV _ _) rfl) (Nat.le_of_ble_eq_true rfl) ?_
    refine ev_iconst (pc := 16) dX10_sooner_16 ?_
    refine ev_istore_n (pc := 17) (i := 2) dX10_sooner_17 rfl (lnl_v rfl rfl) (Nat.le_of_ble_eq_true rfl) ?_
    exact ev_le (lvle_s (lvle_s (lvle_s (lvle_n (lvle_n (lvle_n (lvle_n lvle_z))))))) (KMd_sooner_b18  hL)
set_option maxHeartbeats 1000000 in
set_option maxRecDepth 100000 in
theorem M_Md_step {ω : Wd} {z : Nat → Prop} {h h' : Hp} {a0 a1 a2 a3 r : Int}  (hL : Md_step h a0 a1 a2 a3 = some (r, h')) : CtB ω N_Md_step 2 [aV ω a0, iV a1, iV a2, iV a3] z h (some (iV r)) h' := by
  unfold Md_step at hL
  refine Ct_of (lv := [some (aV ω a0), some (iV a1), some (iV a2), some (iV a3)]) (by decide) (Nat.le_trans (sl_1 (cat_aV _ _) (sl_1 (cat_iV _) (sl_1 (cat_iV _) (sl_1 (cat_iV _) sl_z)))) (Nat.le_of_ble_eq_true rfl)) (la_1 (cat_aV _ _) (la_1 (cat_iV _) (la_1 (cat_iV _) (la_1 (cat_iV _) la_z)))) ?_
  refine ev_aload_n (pc := 0) (i := 0) dX10_step_0 rfl rfl ?_
  refine ev_iconst (pc := 1) dX10_step_1 ?_
  obtain ⟨hs1, hL⟩ := cC_un hL
  refine evB_putI (pc := 2) (c9 := 10) (k9 := 0) (kI := 0) dX10_step_2 fl_Md_96 hs1 (by decide) (fun q hq => by cases hq; rfl) rfl rfl rfl ?_
  refine ev_puG hL (fun h2 hL => ?_)
  refine ev_aload_n (pc := 5) (i := 0) dX10_step_5 rfl rfl ?_
  refine ev_iload_n (pc := 6) (i := 1) dX10_step_6 rfl rfl ?_
  obtain ⟨r3, h4, hc5, hL⟩ := cl_un hL
  refine evB_callV_I (pc := 7) (M_Md_isPlan hc5) dX10_step_7 mt_Md_isPlan st_Md_isPlan ml_Md_425 hs1 (by decide) ⟨_, rfl, rfl⟩ (Nat.le_of_ble_eq_true rfl) rfl rfl (Nat.le_trans sm_z (by decide)) ?_
  refine ev_if_eq (pc := 10) (tgt := 61) dX10_step_10 rfl hL rfl (fun hL => ?_) (fun hL => ?_)
  · refine ev_ldc_w (pc := 61) (x := (-1000000)) dX10_step_61 w_c_Md_428 ?_
    exact evB_iret (pc := 64) dX10_step_64 rfl hL
  · refine ev_iload_n (pc := 13) (i := 2) dX10_step_13 rfl rfl ?_
    refine ev_i2l (pc := 14) dX10_step_14 ?_
    refine ev_lconst (pc := 15) (x := 0) dX10_step_15 rfl ?_
    refine ev_aload_n (pc := 16) (i := 0) dX10_step_16 rfl rfl ?_
    refine ev_get (pc := 17) (c9 := 10) (k9 := 25) dX10_step_17 fl_Md_58 (by decide) hs1 (gv10_25 hs1) ?_
    refine ev_iload_n (pc := 20) (i := 1) dX10_step_20 rfl rfl ?_
    obtain ⟨q6a, q6b, q6c, hL⟩ := cX_un hL
    refine ev_iald (pc := 21) dX10_step_21 q6a q6b q6c ?_
    refine ev_iconst (pc := 22) dX10_step_22 ?_
    refine ev_isub (pc := 23) dX10_step_23 ?_
    refine ev_i2l (pc := 24) dX10_step_24 ?_
    obtain ⟨r7, h8, hc9, hL⟩ := cl_un hL
    refine evB_callS_I (pc := 25) (M_Md_isIn hc9) dX10_step_25 mt_Md_isIn st_Md_isIn ml_Md_217 (Nat.le_of_ble_eq_true rfl) rfl rfl (Nat.le_trans sm_z (by decide)) ?_
    refine ev_if_eq (pc := 28) (tgt := 61) dX10_step_28 rfl hL rfl (fun hL => ?_) (fun hL => ?_)
    · refine ev_ldc_w (pc := 61) (x := (-1000000)) dX10_step_61 w_c_Md_428 ?_
      exact evB_iret (pc := 64) dX10_step_64 rfl hL
    · refine ev_iload_n (pc := 31) (i := 3) dX10_step_31 rfl rfl ?_
      refine ev_i2l (pc := 32) dX10_step_32 ?_
      refine ev_lconst (pc := 33) (x := 0) dX10_step_33 rfl ?_
      refine ev_ldc2 (pc := 34) (x := 2) dX10_step_34 w_l_Md_275 ?_
      obtain ⟨r10, h11, hc12, hL⟩ := cl_un hL
      refine evB_callS_I (pc := 37) (M_Md_isIn hc12) dX10_step_37 mt_Md_isIn st_Md_isIn ml_Md_217 (Nat.le_of_ble_eq_true rfl) rfl rfl (Nat.le_trans sm_z (by decide)) ?_
      refine ev_if_eq (pc := 40) (tgt := 61) dX10_step_40 rfl hL rfl (fun hL => ?_) (fun hL => ?_)
      · refine ev_ldc_w (pc := 61) (x := (-1000000)) dX10_step_61 w_c_Md_428 ?_
        exact evB_iret (pc := 64) dX10_step_64 rfl hL
      · refine ev_aload_n (pc := 43) (i := 0) dX10_step_43 rfl rfl ?_
        refine ev_get (pc := 44) (c9 := 10) (k9 := 24) dX10_step_44 fl_Md_55 (by decide) hs1 (gv10_24 hs1) ?_
        refine ev_iconst (pc := 47) dX10_step_47 ?_
        refine ev_bipush (pc := 48) dX10_step_48 (by decide) ?_
        refine ev_iload_n (pc := 50) (i := 1) dX10_step_50 rfl rfl ?_
        refine ev_imul (pc := 51) dX10_step_51 ?_
        refine ev_iload_n (pc := 52) (i := 2) dX10_step_52 rfl rfl ?_
        refine ev_iadd (pc := 53) dX10_step_53 ?_
        refine ev_imul (pc := 54) dX10_step_54 ?_
        refine ev_iload_n (pc := 55) (i := 3) dX10_step_55 rfl rfl ?_
        refine ev_iadd (pc := 56) dX10_step_56 ?_
        obtain ⟨q13a, q13b, q13c, hL⟩ := cX_un hL
        refine ev_iald (pc := 57) dX10_step_57 q13a q13b q13c ?_
        refine ev_goto (pc := 58) (tgt := 64) dX10_step_58 rfl ?_
        exact evB_iret (pc := 64) dX10_step_64 rfl hL
set_option maxHeartbeats 1000000 in
set_option maxRecDepth 100000 in
theorem M_Md_teach {ω : Wd} {z : Nat → Prop} {h h' : Hp} {a0 a1 r : Int}  (hL : Md_teach h a0 a1 = some (r, h')) : CtB ω N_Md_teach 2 [aV ω a0, iV a1] z h (some (iV r)) h' := by
  unfold Md_teach at hL
  refine Ct_of (lv := [some (aV ω a0), some (iV a1)]) (by decide) (Nat.le_trans (sl_1 (cat_aV _ _) (sl_1 (cat_iV _) sl_z)) (Nat.le_of_ble_eq_true rfl)) (la_1 (cat_aV _ _) (la_1 (cat_iV _) la_z)) ?_
  refine ev_aload_n (pc := 0) (i := 0) dX10_teach_0 rfl rfl ?_
  refine ev_iconst (pc := 1) dX10_teach_1 ?_
  obtain ⟨hs1, hL⟩ := cC_un hL
  refine evB_putI (pc := 2) (c9 := 10) (k9 := 0) (kI := 0) dX10_teach_2 fl_Md_96 hs1 (by decide) (fun q hq => by cases hq; rfl) rfl rfl rfl ?_
  refine ev_puG hL (fun h2 hL => ?_)
  refine ev_aload_n (pc := 5) (i := 0) dX10_teach_5 rfl rfl ?_
  refine ev_iload_n (pc := 6) (i := 1) dX10_teach_6 rfl rfl ?_
  obtain ⟨r3, h4, hc5, hL⟩ := cl_un hL
  refine evB_callV_I (pc := 7) (M_Md_isPerson hc5) dX10_teach_7 mt_Md_isPerson st_Md_isPerson ml_Md_309 hs1 (by decide) ⟨_, rfl, rfl⟩ (Nat.le_of_ble_eq_true rfl) rfl rfl (Nat.le_trans sm_z (by decide)) ?_
  refine ev_if_eq (pc := 10) (tgt := 40) dX10_teach_10 rfl hL rfl (fun hL => ?_) (fun hL => ?_)
  · refine ev_iconst (pc := 40) dX10_teach_40 ?_
    exact evB_iret (pc := 41) dX10_teach_41 rfl hL
  · refine ev_aload_n (pc := 13) (i := 0) dX10_teach_13 rfl rfl ?_
    refine ev_get (pc := 14) (c9 := 10) (k9 := 32) dX10_teach_14 fl_Md_61 (by decide) hs1 (gv10_32 hs1) ?_
    refine ev_bipush (pc := 17) dX10_teach_17 (by decide) ?_
    refine ev_iconst (pc := 19) dX10_teach_19 ?_
    refine ev_iload_n (pc := 20) (i := 1) dX10_teach_20 rfl rfl ?_
    refine ev_imul (pc := 21) dX10_teach_21 ?_
    refine ev_iadd (pc := 22) dX10_teach_22 ?_
    refine ev_iconst (pc := 23) dX10_teach_23 ?_
    refine ev_iadd (pc := 24) dX10_teach_24 ?_
    obtain ⟨q6a, q6b, q6c, hL⟩ := cX_un hL
    refine ev_iald (pc := 25) dX10_teach_25 q6a q6b q6c ?_
    refine ev_if_eq (pc := 26) (tgt := 40) dX10_teach_26 rfl hL rfl (fun hL => ?_) (fun hL => ?_)
    · refine ev_iconst (pc := 40) dX10_teach_40 ?_
      exact evB_iret (pc := 41) dX10_teach_41 rfl hL
    · refine ev_aload_n (pc := 29) (i := 0) dX10_teach_29 rfl rfl ?_
      refine ev_get (pc := 30) (c9 := 10) (k9 := 32) dX10_teach_30 fl_Md_61 (by decide) hs1 (gv10_32 hs1) ?_
      refine ev_bipush (pc := 33) dX10_teach_33 (by decide) ?_
      obtain ⟨q7a, q7b, q7c, hL⟩ := cX_un hL
      refine ev_iald (pc := 35) dX10_teach_35 q7a q7b q7c ?_
      refine ev_iconst (pc := 36) dX10_teach_36 ?_
      refine ev_icmp_ge (pc := 37) (tgt := 42) dX10_teach_37 rfl hL rfl (fun hL => ?_) (fun hL => ?_)
      · refine ev_iconst (pc := 40) dX10_teach_40 ?_
        exact evB_iret (pc := 41) dX10_teach_41 rfl hL
      · refine ev_aload_n (pc := 42) (i := 0) dX10_teach_42 rfl rfl ?_
        obtain ⟨r8, h9, hc10, hL⟩ := cl_un hL
        refine evB_callV_V (pc := 43) (M_Md_remember hc10) dX10_teach_43 mt_Md_remember st_Md_remember ml_Md_384 hs1 (by decide) ⟨_, rfl, rfl⟩ (Nat.le_of_ble_eq_true rfl) rfl rfl (Nat.le_trans sm_z (by decide)) ?_
        refine ev_aload_n (pc := 46) (i := 0) dX10_teach_46 rfl rfl ?_
        refine ev_get (pc := 47) (c9 := 10) (k9 := 32) dX10_teach_47 fl_Md_61 (by decide) hs1 (gv10_32 hs1) ?_
        refine ev_bipush (pc := 50) dX10_teach_50 (by decide) ?_
        refine ev_dup2 (pc := 52) dX10_teach_52 rfl (cat_aV _ _) ?_
        obtain ⟨q11a, q11b, q11c, hL⟩ := cX_un hL
        refine ev_iald (pc := 53) dX10_teach_53 q11a q11b q11c ?_
        refine ev_iconst (pc := 54) dX10_teach_54 ?_
        refine ev_isub (pc := 55) dX10_teach_55 ?_
        obtain ⟨q12a, q12d, q12b, q12c, hL⟩ := cY_un hL
        refine ev_iast (pc := 56) dX10_teach_56 q12a q12d q12b q12c ?_
        refine ev_puG hL (fun h13 hL => ?_)
        refine ev_aload_n (pc := 57) (i := 0) dX10_teach_57 rfl rfl ?_
        refine ev_get (pc := 58) (c9 := 10) (k9 := 32) dX10_teach_58 fl_Md_61 (by decide) hs1 (gv10_32 hs1) ?_
        refine ev_bipush (pc := 61) dX10_teach_61 (by decide) ?_
        refine ev_iconst (pc := 63) dX10_teach_63 ?_
        refine ev_iload_n (pc := 64) (i := 1) dX10_teach_64 rfl rfl ?_
        refine ev_imul (pc := 65) dX10_teach_65 ?_
        refine ev_iadd (pc := 66) dX10_teach_66 ?_
        refine ev_iconst (pc := 67) dX10_teach_67 ?_
        refine ev_iadd (pc := 68) dX10_teach_68 ?_
        refine ev_dup2 (pc := 69) dX10_teach_69 rfl (cat_aV _ _) ?_
        obtain ⟨q14a, q14b, q14c, hL⟩ := cX_un hL
        refine ev_iald (pc := 70) dX10_teach_70 q14a q14b q14c ?_
        refine ev_iconst (pc := 71) dX10_teach_71 ?_
        refine ev_isub (pc := 72) dX10_teach_72 ?_
        obtain ⟨q15a, q15d, q15b, q15c, hL⟩ := cY_un hL
        refine ev_iast (pc := 73) dX10_teach_73 q15a q15d q15b q15c ?_
        refine ev_puG hL (fun h16 hL => ?_)
        refine ev_aload_n (pc := 74) (i := 0) dX10_teach_74 rfl rfl ?_
        refine ev_get (pc := 75) (c9 := 10) (k9 := 32) dX10_teach_75 fl_Md_61 (by decide) hs1 (gv10_32 hs1) ?_
        refine ev_bipush (pc := 78) dX10_teach_78 (by decide) ?_
        refine ev_iconst (pc := 80) dX10_teach_80 ?_
        refine ev_iload_n (pc := 81) (i := 1) dX10_teach_81 rfl rfl ?_
        refine ev_imul (pc := 82) dX10_teach_82 ?_
        refine ev_iadd (pc := 83) dX10_teach_83 ?_
        refine ev_iconst (pc := 84) dX10_teach_84 ?_
        refine ev_iadd (pc := 85) dX10_teach_85 ?_
        obtain ⟨q17a, q17b, q17c, hL⟩ := cX_un hL
        refine ev_iald (pc := 86) dX10_teach_86 q17a q17b q17c ?_
        exact evB_iret (pc := 87) dX10_teach_87 rfl hL
