set_option maxHeartbeats 1000000 in
set_option maxRecDepth 100000 in
theorem KMd_text_b71_body {ω : Wd} {z : Nat → Prop}  {k71 : Hp × Int × Int × Int → Option (Int × Hp)} {h h' : Hp} {x0 x2 x3 r : Int}  (hk71 : ∀ s o, k71 s = some o → EvB ω N_Md_text 1303 (QB (some (iV o.1)) z o.2) z s.1 71 [some (aV ω s.2.1), none, some (iV s.2.2.1), some (iV s.2.2.2)] []) (hL : Md_text_b71_body  k71 h x0 x2 x3 = some (r, h')) : EvB ω N_Md_text 1303 (QB (some (iV r)) z h') z h 71 [some (aV ω x0), none, some (iV x2), some (iV x3)] [] := by
  unfold Md_text_b71_body at hL
  refine ev_iload_n (pc := 71) (i := 3) dX10_text_71 rfl rfl ?_
  refine ev_iload_n (pc := 72) (i := 2) dX10_text_72 rfl rfl ?_
  refine ev_icmp_ge (pc := 73) (tgt := 103) dX10_text_73 rfl hL rfl (fun hL => ?_) (fun hL => ?_)
  · refine ev_aload_n (pc := 76) (i := 0) dX10_text_76 rfl rfl ?_
    obtain ⟨hs13, hL⟩ := cC_un hL
    refine ev_get (pc := 77) (c9 := 10) (k9 := 2) dX10_text_77 fl_Md_13 (by decide) hs13 (gv10_2 hs13) ?_
    refine ev_sipush (pc := 80) dX10_text_80 (by decide) ?_
    refine ev_aload_n (pc := 83) (i := 0) dX10_text_83 rfl rfl ?_
    refine ev_get (pc := 84) (c9 := 10) (k9 := 7) dX10_text_84 fl_Md_286 (by decide) hs13 gv10_7 ?_
    refine ev_imul (pc := 87) dX10_text_87 ?_
    refine ev_iload_n (pc := 88) (i := 3) dX10_text_88 rfl rfl ?_
    refine ev_iadd (pc := 89) dX10_text_89 ?_
    refine ev_aload_n (pc := 90) (i := 0) dX10_text_90 rfl rfl ?_
    refine ev_get (pc := 91) (c9 := 10) (k9 := 1) dX10_text_91 fl_Md_9 (by decide) hs13 (gv10_1 hs13) ?_
    refine ev_iload_n (pc := 94) (i := 3) dX10_text_94 rfl rfl ?_
    obtain ⟨q14a, q14b, q14c, hL⟩ := cX_un hL
    refine ev_bald (pc := 95) dX10_text_95 q14a q14b q14c ?_
    obtain ⟨q15a, q15d, q15b, q15c, hL⟩ := cY_un hL
    refine ev_bast (pc := 96) dX10_text_96 q15a q15d q15b q15c ?_
    refine ev_puG hL (fun h16 hL => ?_)
    refine ev_iinc (pc := 97) dX10_text_97 rfl (lnl_v rfl rfl) (Nat.le_of_ble_eq_true rfl) ?_
    refine ev_goto (pc := 100) (tgt := 71) dX10_text_100 rfl ?_
    exact ev_le (lvle_s (lvle_n (lvle_s (lvle_s lvle_z)))) (hk71 _ _ hL)
  · refine ev_aload_n (pc := 103) (i := 0) dX10_text_103 rfl rfl ?_
    obtain ⟨hs17, hL⟩ := cC_un hL
    refine ev_get (pc := 104) (c9 := 10) (k9 := 3) dX10_text_104 fl_Md_16 (by decide) hs17 (gv10_3 hs17) ?_
    refine ev_aload_n (pc := 107) (i := 0) dX10_text_107 rfl rfl ?_
    refine ev_get (pc := 108) (c9 := 10) (k9 := 7) dX10_text_108 fl_Md_286 (by decide) hs17 gv10_7 ?_
    refine ev_iload_n (pc := 111) (i := 2) dX10_text_111 rfl rfl ?_
    obtain ⟨q18a, q18d, q18b, q18c, hL⟩ := cY_un hL
    refine ev_iast (pc := 112) dX10_text_112 q18a q18d q18b q18c ?_
    refine ev_puG hL (fun h19 hL => ?_)
    refine ev_aload_n (pc := 113) (i := 0) dX10_text_113 rfl rfl ?_
    refine ev_dup (pc := 114) dX10_text_114 (cat_aV _ _) ?_
    refine ev_get (pc := 115) (c9 := 10) (k9 := 7) dX10_text_115 fl_Md_286 (by decide) hs17 gv10_7 ?_
    refine ev_iconst (pc := 118) dX10_text_118 ?_
    refine ev_iadd (pc := 119) dX10_text_119 ?_
    refine evB_putI (pc := 120) (c9 := 10) (k9 := 7) (kI := 7) dX10_text_120 fl_Md_286 hs17 (by decide) (fun q hq => by cases hq; rfl) rfl rfl rfl ?_
    refine ev_puG hL (fun h20 hL => ?_)
    refine ev_aload_n (pc := 123) (i := 0) dX10_text_123 rfl rfl ?_
    refine ev_get (pc := 124) (c9 := 10) (k9 := 7) dX10_text_124 fl_Md_286 (by decide) hs17 gv10_7 ?_
    refine ev_iconst (pc := 127) dX10_text_127 ?_
    refine ev_isub (pc := 128) dX10_text_128 ?_
    exact evB_iret (pc := 129) dX10_text_129 rfl hL
set_option maxHeartbeats 1000000 in
set_option maxRecDepth 100000 in
theorem KMd_text_b71 {ω : Wd} {z : Nat → Prop}  {h h' : Hp} {x0 x2 x3 r : Int}  (hL : Md_text_b71 h x0 x2 x3 = some (r, h')) : EvB ω N_Md_text 1303 (QB (some (iV r)) z h') z h 71 [some (aV ω x0), none, some (iV x2), some (iV x3)] [] := by
  unfold Md_text_b71 at hL
  refine itr_link (P := fun (s : Hp × Int × Int × Int) (o : Int × Hp) => EvB ω N_Md_text 1303 (QB (some (iV o.1)) z o.2) z s.1 71 [some (aV ω s.2.1), none, some (iV s.2.2.1), some (iV s.2.2.2)] []) ?_ _ _ _ hL
  intro k hk s o h9
  have h10 := KMd_text_b71_body (ω := ω) (z := z) (k71 := k) (h := s.1) (x0 := s.2.1) (x2 := s.2.2.1) (x3 := s.2.2.2) (r := o.1) (h' := o.2) 
  exact h10 hk h9
set_option maxHeartbeats 1000000 in
set_option maxRecDepth 100000 in
theorem KMd_text_b137_body {ω : Wd} {z : Nat → Prop}  {k137 : Hp × Int × Int → Option (Int × Hp)} {h h' : Hp} {x0 x3 r : Int}  (hk137 : ∀ s o, k137 s = some o → EvB ω N_Md_text 1303 (QB (some (iV o.1)) z o.2) z s.1 137 [some (aV ω s.2.1), none, none, some (iV s.2.2)] []) (hL : Md_text_b137_body  k137 h x0 x3 = some (r, h')) : EvB ω N_Md_text 1303 (QB (some (iV r)) z h') z h 137 [some (aV ω x0), none, none, some (iV x3)] [] := by
  unfold Md_text_b137_body at hL
  refine ev_iload_n (pc := 137) (i := 3) dX10_text_137 rfl rfl ?_
  refine ev_bipush (pc := 138) dX10_text_138 (by decide) ?_
  refine ev_icmp_ge (pc := 140) (tgt := 173) dX10_text_140 rfl hL rfl (fun hL => ?_) (fun hL => ?_)
  · refine ev_aload_n (pc := 143) (i := 0) dX10_text_143 rfl rfl ?_
    obtain ⟨hs21, hL⟩ := cC_un hL
    refine ev_get (pc := 144) (c9 := 10) (k9 := 24) dX10_text_144 fl_Md_55 (by decide) hs21 (gv10_24 hs21) ?_
    refine ev_bipush (pc := 147) dX10_text_147 (by decide) ?_
    refine ev_aload_n (pc := 149) (i := 0) dX10_text_149 rfl rfl ?_
    refine ev_get (pc := 150) (c9 := 10) (k9 := 30) dX10_text_150 fl_Md_289 (by decide) hs21 gv10_30 ?_
    refine ev_imul (pc := 153) dX10_text_153 ?_
    refine ev_iload_n (pc := 154) (i := 3) dX10_text_154 rfl rfl ?_
    refine ev_iadd (pc := 155) dX10_text_155 ?_
    refine ev_aload_n (pc := 156) (i := 0) dX10_text_156 rfl rfl ?_
    refine ev_get (pc := 157) (c9 := 10) (k9 := 24) dX10_text_157 fl_Md_55 (by decide) hs21 (gv10_24 hs21) ?_
    refine ev_sipush (pc := 160) dX10_text_160 (by decide) ?_
    refine ev_iload_n (pc := 163) (i := 3) dX10_text_163 rfl rfl ?_
    refine ev_iadd (pc := 164) dX10_text_164 ?_
    obtain ⟨q22a, q22b, q22c, hL⟩ := cX_un hL
    refine ev_iald (pc := 165) dX10_text_165 q22a q22b q22c ?_
    obtain ⟨q23a, q23d, q23b, q23c, hL⟩ := cY_un hL
    refine ev_iast (pc := 166) dX10_text_166 q23a q23d q23b q23c ?_
    refine ev_puG hL (fun h24 hL => ?_)
    refine ev_iinc (pc := 167) dX10_text_167 rfl (lnl_n rfl) (Nat.le_of_ble_eq_true rfl) ?_
    refine ev_goto (pc := 170) (tgt := 137) dX10_text_170 rfl ?_
    exact ev_le (lvle_s (lvle_n (lvle_n (lvle_s lvle_z)))) (hk137 _ _ hL)
  · refine ev_aload_n (pc := 173) (i := 0) dX10_text_173 rfl rfl ?_
    obtain ⟨hs25, hL⟩ := cC_un hL
    refine ev_get (pc := 174) (c9 := 10) (k9 := 25) dX10_text_174 fl_Md_58 (by decide) hs25 (gv10_25 hs25) ?_
    refine ev_aload_n (pc := 177) (i := 0) dX10_text_177 rfl rfl ?_
    refine ev_get (pc := 178) (c9 := 10) (k9 := 30) dX10_text_178 fl_Md_289 (by decide) hs25 gv10_30 ?_
    refine ev_aload_n (pc := 181) (i := 0) dX10_text_181 rfl rfl ?_
    refine ev_get (pc := 182) (c9 := 10) (k9 := 25) dX10_text_182 fl_Md_58 (by decide) hs25 (gv10_25 hs25) ?_
    refine ev_iconst (pc := 185) dX10_text_185 ?_
    obtain ⟨q26a, q26b, q26c, hL⟩ := cX_un hL
    refine ev_iald (pc := 186) dX10_text_186 q26a q26b q26c ?_
    obtain ⟨q27a, q27d, q27b, q27c, hL⟩ := cY_un hL
    refine ev_iast (pc := 187) dX10_text_187 q27a q27d q27b q27c ?_
    refine ev_puG hL (fun h28 hL => ?_)
    refine ev_aload_n (pc := 188) (i := 0) dX10_text_188 rfl rfl ?_
    refine ev_dup (pc := 189) dX10_text_189 (cat_aV _ _) ?_
    refine ev_get (pc := 190) (c9 := 10) (k9 := 30) dX10_text_190 fl_Md_289 (by decide) hs25 gv10_30 ?_
    refine ev_iconst (pc := 193) dX10_text_193 ?_
    refine ev_iadd (pc := 194) dX10_text_194 ?_
    refine evB_putI (pc := 195) (c9 := 10) (k9 := 30) (kI := 30) dX10_text_195 fl_Md_289 hs25 (by decide) (fun q hq => by cases hq; rfl) rfl rfl rfl ?_
    refine ev_puG hL (fun h29 hL => ?_)
    refine ev_aload_n (pc := 198) (i := 0) dX10_text_198 rfl rfl ?_
    refine ev_get (pc := 199) (c9 := 10) (k9 := 30) dX10_text_199 fl_Md_289 (by decide) hs25 gv10_30 ?_
    refine ev_iconst (pc := 202) dX10_text_202 ?_
    refine ev_isub (pc := 203) dX10_text_203 ?_
    exact evB_iret (pc := 204) dX10_text_204 rfl hL
set_option maxHeartbeats 1000000 in
set_option maxRecDepth 100000 in
theorem KMd_text_b137 {ω : Wd} {z : Nat → Prop}  {h h' : Hp} {x0 x3 r : Int}  (hL : Md_text_b137 h x0 x3 = some (r, h')) : EvB ω N_Md_text 1303 (QB (some (iV r)) z h') z h 137 [some (aV ω x0), none, none, some (iV x3)] [] := by
  unfold Md_text_b137 at hL
  refine itr_link (P := fun (s : Hp × Int × Int) (o : Int × Hp) => EvB ω N_Md_text 1303 (QB (some (iV o.1)) z o.2) z s.1 137 [some (aV ω s.2.1), none, none, some (iV s.2.2)] []) ?_ _ _ _ hL
  intro k hk s o h9
  have h10 := KMd_text_b137_body (ω := ω) (z := z) (k137 := k) (h := s.1) (x0 := s.2.1) (x3 := s.2.2) (r := o.1) (h' := o.2) 
  exact h10 hk h9
set_option maxHeartbeats 1000000 in
set_option maxRecDepth 100000 in
theorem KMd_text_b322_body {ω : Wd} {z : Nat → Prop}  {k322 : Hp × Int × Int → Option (Int × Hp)} {h h' : Hp} {x0 x3 r : Int}  (hk322 : ∀ s o, k322 s = some o → EvB ω N_Md_text 1303 (QB (some (iV o.1)) z o.2) z s.1 322 [some (aV ω s.2.1), none, none, some (iV s.2.2)] []) (hL : Md_text_b322_body  k322 h x0 x3 = some (r, h')) : EvB ω N_Md_text 1303 (QB (some (iV r)) z h') z h 322 [some (aV ω x0), none, none, some (iV x3)] [] := by
  unfold Md_text_b322_body at hL
  refine ev_iload_n (pc := 322) (i := 3) dX10_text_322 rfl rfl ?_
  refine ev_aload_n (pc := 323) (i := 0) dX10_text_323 rfl rfl ?_
  obtain ⟨hs47, hL⟩ := cC_un hL
  refine ev_get (pc := 324) (c9 := 10) (k9 := 26) dX10_text_324 fl_Md_294 (by decide) hs47 gv10_26 ?_
  refine ev_icmp_ge (pc := 327) (tgt := 380) dX10_text_327 rfl hL rfl (fun hL => ?_) (fun hL => ?_)
  · refine ev_aload_n (pc := 330) (i := 0) dX10_text_330 rfl rfl ?_
    refine ev_get (pc := 331) (c9 := 10) (k9 := 32) dX10_text_331 fl_Md_61 (by decide) hs47 (gv10_32 hs47) ?_
    refine ev_bipush (pc := 334) dX10_text_334 (by decide) ?_
    refine ev_iconst (pc := 336) dX10_text_336 ?_
    refine ev_iload_n (pc := 337) (i := 3) dX10_text_337 rfl rfl ?_
    refine ev_imul (pc := 338) dX10_text_338 ?_
    refine ev_iadd (pc := 339) dX10_text_339 ?_
    refine ev_iconst (pc := 340) dX10_text_340 ?_
    refine ev_iadd (pc := 341) dX10_text_341 ?_
    refine ev_aload_n (pc := 342) (i := 0) dX10_text_342 rfl rfl ?_
    refine ev_get (pc := 343) (c9 := 10) (k9 := 20) dX10_text_343 fl_Md_43 (by decide) hs47 (gv10_20 hs47) ?_
    refine ev_iconst (pc := 346) dX10_text_346 ?_
    refine ev_iload_n (pc := 347) (i := 3) dX10_text_347 rfl rfl ?_
    refine ev_imul (pc := 348) dX10_text_348 ?_
    obtain ⟨q48a, q48b, q48c, hL⟩ := cX_un hL
    refine ev_iald (pc := 349) dX10_text_349 q48a q48b q48c ?_
    obtain ⟨q49a, q49d, q49b, q49c, hL⟩ := cY_un hL
    refine ev_iast (pc := 350) dX10_text_350 q49a q49d q49b q49c ?_
    refine ev_puG hL (fun h50 hL => ?_)
    refine ev_aload_n (pc := 351) (i := 0) dX10_text_351 rfl rfl ?_
    refine ev_get (pc := 352) (c9 := 10) (k9 := 32) dX10_text_352 fl_Md_61 (by decide) hs47 (gv10_32 hs47) ?_
    refine ev_bipush (pc := 355) dX10_text_355 (by decide) ?_
    refine ev_iconst (pc := 357) dX10_text_357 ?_
    refine ev_iload_n (pc := 358) (i := 3) dX10_text_358 rfl rfl ?_
    refine ev_imul (pc := 359) dX10_text_359 ?_
    refine ev_iadd (pc := 360) dX10_text_360 ?_
    refine ev_iconst (pc := 361) dX10_text_361 ?_
    refine ev_iadd (pc := 362) dX10_text_362 ?_
    refine ev_aload_n (pc := 363) (i := 0) dX10_text_363 rfl rfl ?_
    refine ev_get (pc := 364) (c9 := 10) (k9 := 20) dX10_text_364 fl_Md_43 (by decide) hs47 (gv10_20 hs47) ?_
    refine ev_iconst (pc := 367) dX10_text_367 ?_
    refine ev_iload_n (pc := 368) (i := 3) dX10_text_368 rfl rfl ?_
    refine ev_imul (pc := 369) dX10_text_369 ?_
    refine ev_iconst (pc := 370) dX10_text_370 ?_
    refine ev_iadd (pc := 371) dX10_text_371 ?_
    obtain ⟨q51a, q51b, q51c, hL⟩ := cX_un hL
    refine ev_iald (pc := 372) dX10_text_372 q51a q51b q51c ?_
    obtain ⟨q52a, q52d, q52b, q52c, hL⟩ := cY_un hL
    refine ev_iast (pc := 373) dX10_text_373 q52a q52d q52b q52c ?_
    refine ev_puG hL (fun h53 hL => ?_)
    refine ev_iinc (pc := 374) dX10_text_374 rfl (lnl_n rfl) (Nat.le_of_ble_eq_true rfl) ?_
    refine ev_goto (pc := 377) (tgt := 322) dX10_text_377 rfl ?_
    exact ev_le (lvle_s (lvle_n (lvle_n (lvle_s lvle_z)))) (hk322 _ _ hL)
  · refine ev_aload_n (pc := 380) (i := 0) dX10_text_380 rfl rfl ?_
    refine ev_get (pc := 381) (c9 := 10) (k9 := 32) dX10_text_381 fl_Md_61 (by decide) hs47 (gv10_32 hs47) ?_
    refine ev_bipush (pc := 384) dX10_text_384 (by decide) ?_
    refine ev_aload_n (pc := 386) (i := 0) dX10_text_386 rfl rfl ?_
    refine ev_get (pc := 387) (c9 := 10) (k9 := 18) dX10_text_387 fl_Md_37 (by decide) hs47 (gv10_18 hs47) ?_
    refine ev_iconst (pc := 390) dX10_text_390 ?_
    obtain ⟨q54a, q54b, q54c, hL⟩ := cX_un hL
    refine ev_iald (pc := 391) dX10_text_391 q54a q54b q54c ?_
    obtain ⟨q55a, q55d, q55b, q55c, hL⟩ := cY_un hL
    refine ev_iast (pc := 392) dX10_text_392 q55a q55d q55b q55c ?_
    refine ev_puG hL (fun h56 hL => ?_)
    refine ev_aload_n (pc := 393) (i := 0) dX10_text_393 rfl rfl ?_
    refine ev_iconst (pc := 394) dX10_text_394 ?_
    refine evB_putI (pc := 395) (c9 := 10) (k9 := 50) (kI := 50) dX10_text_395 fl_Md_300 hs47 (by decide) (fun q hq => by cases hq; rfl) rfl rfl rfl ?_
    refine ev_puG hL (fun h57 hL => ?_)
    refine ev_aload_n (pc := 398) (i := 0) dX10_text_398 rfl rfl ?_
    refine ev_iconst (pc := 399) dX10_text_399 ?_
    refine evB_putI (pc := 400) (c9 := 10) (k9 := 42) (kI := 42) dX10_text_400 fl_Md_303 hs47 (by decide) (fun q hq => by cases hq; rfl) rfl rfl rfl ?_
    refine ev_puG hL (fun h58 hL => ?_)
    refine ev_aload_n (pc := 403) (i := 0) dX10_text_403 rfl rfl ?_
    refine ev_iconst (pc := 404) dX10_text_404 ?_
    refine evB_putZ (pc := 405) (c9 := 10) (k9 := 53) (kI := 53) dX10_text_405 fl_Md_306 hs47 (by decide) (fun q hq => by cases hq; rfl) rfl rfl (by decide) rfl ?_
    refine ev_puG hL (fun h59 hL => ?_)
    refine ev_aload_n (pc := 408) (i := 0) dX10_text_408 rfl rfl ?_
    refine ev_get (pc := 409) (c9 := 10) (k9 := 26) dX10_text_409 fl_Md_294 (by decide) hs47 gv10_26 ?_
    exact evB_iret (pc := 412) dX10_text_412 rfl hL
set_option maxHeartbeats 1000000 in
set_option maxRecDepth 100000 in
theorem KMd_text_b322 {ω : Wd} {z : Nat → Prop}  {h h' : Hp} {x0 x3 r : Int}  (hL : Md_text_b322 h x0 x3 = some (r, h')) : EvB ω N_Md_text 1303 (QB (some (iV r)) z h') z h 322 [some (aV ω x0), none, none, some (iV x3)] [] := by
  unfold Md_text_b322 at hL
  refine itr_link (P := fun (s : Hp × Int × Int) (o : Int × Hp) => EvB ω N_Md_text 1303 (QB (some (iV o.1)) z o.2) z s.1 322 [some (aV ω s.2.1), none, none, some (iV s.2.2)] []) ?_ _ _ _ hL
  intro k hk s o h9
  have h10 := KMd_text_b322_body (ω := ω) (z := z) (k322 := k) (h := s.1) (x0 := s.2.1) (x3 := s.2.2) (r := o.1) (h' := o.2) 
  exact h10 hk h9
set_option maxHeartbeats 1000000 in
set_option maxRecDepth 100000 in
theorem KMd_text_b300_body {ω : Wd} {z : Nat → Prop}  {k300 : Hp × Int × Int → Option (Int × Hp)} {h h' : Hp} {x0 x3 r : Int}  (hk300 : ∀ s o, k300 s = some o → EvB ω N_Md_text 1303 (QB (some (iV o.1)) z o.2) z s.1 300 [some (aV ω s.2.1), none, none, some (iV s.2.2)] []) (hL : Md_text_b300_body  k300 h x0 x3 = some (r, h')) : EvB ω N_Md_text 1303 (QB (some (iV r)) z h') z h 300 [some (aV ω x0), none, none, some (iV x3)] [] := by
  unfold Md_text_b300_body at hL
  refine ev_iload_n (pc := 300) (i := 3) dX10_text_300 rfl rfl ?_
  refine ev_sipush (pc := 301) dX10_text_301 (by decide) ?_
  refine ev_icmp_ge (pc := 304) (tgt := 320) dX10_text_304 rfl hL rfl (fun hL => ?_) (fun hL => ?_)
  · refine ev_aload_n (pc := 307) (i := 0) dX10_text_307 rfl rfl ?_
    obtain ⟨hs44, hL⟩ := cC_un hL
    refine ev_get (pc := 308) (c9 := 10) (k9 := 32) dX10_text_308 fl_Md_61 (by decide) hs44 (gv10_32 hs44) ?_
    refine ev_iload_n (pc := 311) (i := 3) dX10_text_311 rfl rfl ?_
    refine ev_iconst (pc := 312) dX10_text_312 ?_
    obtain ⟨q45a, q45d, q45b, q45c, hL⟩ := cY_un hL
    refine ev_iast (pc := 313) dX10_text_313 q45a q45d q45b q45c ?_
    refine ev_puG hL (fun h46 hL => ?_)
    refine ev_iinc (pc := 314) dX10_text_314 rfl (lnl_n rfl) (Nat.le_of_ble_eq_true rfl) ?_
    refine ev_goto (pc := 317) (tgt := 300) dX10_text_317 rfl ?_
    exact ev_le (lvle_s (lvle_n (lvle_n (lvle_s lvle_z)))) (hk300 _ _ hL)
  · refine ev_iconst (pc := 320) dX10_text_320 ?_
    refine ev_istore_n (pc := 321) (i := 3) dX10_text_321 rfl (lnl_n rfl) (Nat.le_of_ble_eq_true rfl) ?_
    exact ev_le (lvle_s (lvle_n (lvle_n (lvle_s lvle_z)))) (KMd_text_b322  hL)
set_option maxHeartbeats 1000000 in
set_option maxRecDepth 100000 in
theorem KMd_text_b300 {ω : Wd} {z : Nat → Prop}  {h h' : Hp} {x0 x3 r : Int}  (hL : Md_text_b300 h x0 x3 = some (r, h')) : EvB ω N_Md_text 1303 (QB (some (iV r)) z h') z h 300 [some (aV ω x0), none, none, some (iV x3)] [] := by
  unfold Md_text_b300 at hL
  refine itr_link (P := fun (s : Hp × Int × Int) (o : Int × Hp) => EvB ω N_Md_text 1303 (QB (some (iV o.1)) z o.2) z s.1 300 [some (aV ω s.2.1), none, none, some (iV s.2.2)] []) ?_ _ _ _ hL
  intro k hk s o h9
  have h10 := KMd_text_b300_body (ω := ω) (z := z) (k300 := k) (h := s.1) (x0 := s.2.1) (x3 := s.2.2) (r := o.1) (h' := o.2) 
  exact h10 hk h9
set_option maxHeartbeats 1000000 in
set_option maxRecDepth 100000 in
theorem KMd_text_b274_body {ω : Wd} {z : Nat → Prop}  {k274 : Hp × Int × Int → Option (Int × Hp)} {h h' : Hp} {x0 x3 r : Int}  (hk274 : ∀ s o, k274 s = some o → EvB ω N_Md_text 1303 (QB (some (iV o.1)) z o.2) z s.1 274 [some (aV ω s.2.1), none, none, some (iV s.2.2)] []) (hL : Md_text_b274_body  k274 h x0 x3 = some (r, h')) : EvB ω N_Md_text 1303 (QB (some (iV r)) z h') z h 274 [some (aV ω x0), none, none, some (iV x3)] [] := by
  unfold Md_text_b274_body at hL
  refine ev_iload_n (pc := 274) (i := 3) dX10_text_274 rfl rfl ?_
  refine ev_bipush (pc := 275) dX10_text_275 (by decide) ?_
  refine ev_icmp_ge (pc := 277) (tgt := 298) dX10_text_277 rfl hL rfl (fun hL => ?_) (fun hL => ?_)
  · refine ev_aload_n (pc := 280) (i := 0) dX10_text_280 rfl rfl ?_
    obtain ⟨hs40, hL⟩ := cC_un hL
    refine ev_get (pc := 281) (c9 := 10) (k9 := 22) dX10_text_281 fl_Md_49 (by decide) hs40 (gv10_22 hs40) ?_
    refine ev_iload_n (pc := 284) (i := 3) dX10_text_284 rfl rfl ?_
    refine ev_aload_n (pc := 285) (i := 0) dX10_text_285 rfl rfl ?_
    refine ev_get (pc := 286) (c9 := 10) (k9 := 23) dX10_text_286 fl_Md_52 (by decide) hs40 (gv10_23 hs40) ?_
    refine ev_iload_n (pc := 289) (i := 3) dX10_text_289 rfl rfl ?_
    obtain ⟨q41a, q41b, q41c, hL⟩ := cX_un hL
    refine ev_iald (pc := 290) dX10_text_290 q41a q41b q41c ?_
    obtain ⟨q42a, q42d, q42b, q42c, hL⟩ := cY_un hL
    refine ev_iast (pc := 291) dX10_text_291 q42a q42d q42b q42c ?_
    refine ev_puG hL (fun h43 hL => ?_)
    refine ev_iinc (pc := 292) dX10_text_292 rfl (lnl_n rfl) (Nat.le_of_ble_eq_true rfl) ?_
    refine ev_goto (pc := 295) (tgt := 274) dX10_text_295 rfl ?_
    exact ev_le (lvle_s (lvle_n (lvle_n (lvle_s lvle_z)))) (hk274 _ _ hL)
  · refine ev_iconst (pc := 298) dX10_text_298 ?_
    refine ev_istore_n (pc := 299) (i := 3) dX10_text_299 rfl (lnl_n rfl) (Nat.le_of_ble_eq_true rfl) ?_
    exact ev_le (lvle_s (lvle_n (lvle_n (lvle_s lvle_z)))) (KMd_text_b300  hL)
set_option maxHeartbeats 1000000 in
set_option maxRecDepth 100000 in
theorem KMd_text_b274 {ω : Wd} {z : Nat → Prop}  {h h' : Hp} {x0 x3 r : Int}  (hL : Md_text_b274 h x0 x3 = some (r, h')) : EvB ω N_Md_text 1303 (QB (some (iV r)) z h') z h 274 [some (aV ω x0), none, none, some (iV x3)] [] := by
  unfold Md_text_b274 at hL
  refine itr_link (P := fun (s : Hp × Int × Int) (o : Int × Hp) => EvB ω N_Md_text 1303 (QB (some (iV o.1)) z o.2) z s.1 274 [some (aV ω s.2.1), none, none, some (iV s.2.2)] []) ?_ _ _ _ hL
  intro k hk s o h9
  have h10 := KMd_text_b274_body (ω := ω) (z := z) (k274 := k) (h := s.1) (x0 := s.2.1) (x3 := s.2.2) (r := o.1) (h' := o.2) 
  exact h10 hk h9
set_option maxHeartbeats 1000000 in
set_option maxRecDepth 100000 in
theorem KMd_text_b248_body {ω : Wd} {z : Nat → Prop}  {k248 : Hp × Int × Int → Option (Int × Hp)} {h h' : Hp} {x0 x3 r : Int}  (hk248 : ∀ s o, k248 s = some o → EvB ω N_Md_text 1303 (QB (some (iV o.1)) z o.2) z s.1 248 [some (aV ω s.2.1), none, none, some (iV s.2.2)] []) (hL : Md_text_b248_body  k248 h x0 x3 = some (r, h')) : EvB ω N_Md_text 1303 (QB (some (iV r)) z h') z h 248 [some (aV ω x0), none, none, some (iV x3)] [] := by
  unfold Md_text_b248_body at hL
  refine ev_iload_n (pc := 248) (i := 3) dX10_text_248 rfl rfl ?_
  refine ev_bipush (pc := 249) dX10_text_249 (by decide) ?_
  refine ev_icmp_ge (pc := 251) (tgt := 272) dX10_text_251 rfl hL rfl (fun hL => ?_) (fun hL => ?_)
  · refine ev_aload_n (pc := 254) (i := 0) dX10_text_254 rfl rfl ?_
    obtain ⟨hs36, hL⟩ := cC_un hL
    refine ev_get (pc := 255) (c9 := 10) (k9 := 20) dX10_text_255 fl_Md_43 (by decide) hs36 (gv10_20 hs36) ?_
    refine ev_iload_n (pc := 258) (i := 3) dX10_text_258 rfl rfl ?_
    refine ev_aload_n (pc := 259) (i := 0) dX10_text_259 rfl rfl ?_
    refine ev_get (pc := 260) (c9 := 10) (k9 := 21) dX10_text_260 fl_Md_46 (by decide) hs36 (gv10_21 hs36) ?_
    refine ev_iload_n (pc := 263) (i := 3) dX10_text_263 rfl rfl ?_
    obtain ⟨q37a, q37b, q37c, hL⟩ := cX_un hL
    refine ev_iald (pc := 264) dX10_text_264 q37a q37b q37c ?_
    obtain ⟨q38a, q38d, q38b, q38c, hL⟩ := cY_un hL
    refine ev_iast (pc := 265) dX10_text_265 q38a q38d q38b q38c ?_
    refine ev_puG hL (fun h39 hL => ?_)
    refine ev_iinc (pc := 266) dX10_text_266 rfl (lnl_n rfl) (Nat.le_of_ble_eq_true rfl) ?_
    refine ev_goto (pc := 269) (tgt := 248) dX10_text_269 rfl ?_
    exact ev_le (lvle_s (lvle_n (lvle_n (lvle_s lvle_z)))) (hk248 _ _ hL)
  · refine ev_iconst (pc := 272) dX10_text_272 ?_
    refine ev_istore_n (pc := 273) (i := 3) dX10_text_273 rfl (lnl_n rfl) (Nat.le_of_ble_eq_true rfl) ?_
    exact ev_le (lvle_s (lvle_n (lvle_n (lvle_s lvle_z)))) (KMd_text_b274  hL)
set_option maxHeartbeats 1000000 in
set_option maxRecDepth 100000 in
theorem KMd_text_b248 {ω : Wd} {z : Nat → Prop}  {h h' : Hp} {x0 x3 r : Int}  (hL : Md_text_b248 h x0 x3 = some (r, h')) : EvB ω N_Md_text 1303 (QB (some (iV r)) z h') z h 248 [some (aV ω x0), none, none, some (iV x3)] [] := by
  unfold Md_text_b248 at hL
  refine itr_link (P := fun (s : Hp × Int × Int) (o : Int × Hp) => EvB ω N_Md_text 1303 (QB (some (iV o.1)) z o.2) z s.1 248 [some (aV ω s.2.1), none, none, some (iV s.2.2)] []) ?_ _ _ _ hL
  intro k hk s o h9
  have h10 := KMd_text_b248_body (ω := ω) (z := z) (k248 := k) (h := s.1) (x0 := s.2.1) (x3 := s.2.2) (r := o.1) (h' := o.2) 
  exact h10 hk h9
set_option maxHeartbeats 1000000 in
set_option maxRecDepth 100000 in
theorem KMd_text_b223_body {ω : Wd} {z : Nat → Prop}  {k223 : Hp × Int × Int → Option (Int × Hp)} {h h' : Hp} {x0 x3 r : Int}  (hk223 : ∀ s o, k223 s = some o → EvB ω N_Md_text 1303 (QB (some (iV o.1)) z o.2) z s.1 223 [some (aV ω s.2.1), none, none, some (iV s.2.2)] []) (hL : Md_text_b223_body  k223 h x0 x3 = some (r, h')) : EvB ω N_Md_text 1303 (QB (some (iV r)) z h') z h 223 [some (aV ω x0), none, none, some (iV x3)] [] := by
  unfold Md_text_b223_body at hL
  refine ev_iload_n (pc := 223) (i := 3) dX10_text_223 rfl rfl ?_
  refine ev_iconst (pc := 224) dX10_text_224 ?_
  refine ev_icmp_ge (pc := 225) (tgt := 246) dX10_text_225 rfl hL rfl (fun hL => ?_) (fun hL => ?_)
  · refine ev_aload_n (pc := 228) (i := 0) dX10_text_228 rfl rfl ?_
    obtain ⟨hs32, hL⟩ := cC_un hL
    refine ev_get (pc := 229) (c9 := 10) (k9 := 18) dX10_text_229 fl_Md_37 (by decide) hs32 (gv10_18 hs32) ?_
    refine ev_iload_n (pc := 232) (i := 3) dX10_text_232 rfl rfl ?_
    refine ev_aload_n (pc := 233) (i := 0) dX10_text_233 rfl rfl ?_
    refine ev_get (pc := 234) (c9 := 10) (k9 := 19) dX10_text_234 fl_Md_40 (by decide) hs32 (gv10_19 hs32) ?_
    refine ev_iload_n (pc := 237) (i := 3) dX10_text_237 rfl rfl ?_
    obtain ⟨q33a, q33b, q33c, hL⟩ := cX_un hL
    refine ev_iald (pc := 238) dX10_text_238 q33a q33b q33c ?_
    obtain ⟨q34a, q34d, q34b, q34c, hL⟩ := cY_un hL
    refine ev_iast (pc := 239) dX10_text_239 q34a q34d q34b q34c ?_
    refine ev_puG hL (fun h35 hL => ?_)
    refine ev_iinc (pc := 240) dX10_text_240 rfl (lnl_n rfl) (Nat.le_of_ble_eq_true rfl) ?_
    refine ev_goto (pc := 243) (tgt := 223) dX10_text_243 rfl ?_
    exact ev_le (lvle_s (lvle_n (lvle_n (lvle_s lvle_z)))) (hk223 _ _ hL)
  · refine ev_iconst (pc := 246) dX10_text_246 ?_
    refine ev_istore_n (pc := 247) (i := 3) dX10_text_247 rfl (lnl_n rfl) (Nat.le_of_ble_eq_true rfl) ?_
    exact ev_le (lvle_s (lvle_n (lvle_n (lvle_s lvle_z)))) (KMd_text_b248  hL)
set_option maxHeartbeats 1000000 in
set_option maxRecDepth 100000 in
theorem KMd_text_b223 {ω : Wd} {z : Nat → Prop}  {h h' : Hp} {x0 x3 r : Int}  (hL : Md_text_b223 h x0 x3 = some (r, h')) : EvB ω N_Md_text 1303 (QB (some (iV r)) z h') z h 223 [some (aV ω x0), none, none, some (iV x3)] [] := by
  unfold Md_text_b223 at hL
  refine itr_link (P := fun (s : Hp × Int × Int) (o : Int × Hp) => EvB ω N_Md_text 1303 (QB (some (iV o.1)) z o.2) z s.1 223 [some (aV ω s.2.1), none, none, some (iV s.2.2)] []) ?_ _ _ _ hL
  intro k hk s o h9
  have h10 := KMd_text_b223_body (ω := ω) (z := z) (k223 := k) (h := s.1) (x0 := s.2.1) (x3 := s.2.2) (r := o.1) (h' := o.2) 
  exact h10 hk h9
set_option maxHeartbeats 1000000 in
set_option maxRecDepth 100000 in
theorem KMd_text_b43 {ω : Wd} {z : Nat → Prop}  {h h' : Hp} {x0 x1 r : Int}  (hL : Md_text_b43 h x0 x1 = some (r, h')) : EvB ω N_Md_text 1303 (QB (some (iV r)) z h') z h 43 [some (aV ω x0), some (iV x1), none, none] [] := by
  unfold Md_text_b43 at hL
  refine ev_aload_n (pc := 43) (i := 0) dX10_text_43 rfl rfl ?_
  refine ev_iload_n (pc := 44) (i := 1) dX10_text_44 rfl rfl ?_
  obtain ⟨hs7, hL⟩ := cC_un hL
  obtain ⟨r8, h9, hc10, hL⟩ := cl_un hL
  refine evB_callV_I (pc := 45) (M_Md_fault hc10) dX10_text_45 mt_Md_fault st_Md_fault ml_Md_292 hs7 (by decide) ⟨_, rfl, rfl⟩ (Nat.le_of_ble_eq_true rfl) rfl rfl (Nat.le_trans sm_z (by decide)) ?_
  refine ev_iconst (pc := 48) dX10_text_48 ?_
  refine ev_icmp_eq (pc := 49) (tgt := 54) dX10_text_49 rfl hL rfl (fun hL => ?_) (fun hL => ?_)
  · refine ev_aload_n (pc := 54) (i := 0) dX10_text_54 rfl rfl ?_
    refine ev_get (pc := 55) (c9 := 10) (k9 := 6) dX10_text_55 fl_Md_109 (by decide) hs7 gv10_6 ?_
    refine ev_bdI hL (fun v11 hL => ?_)
    refine ev_istore_n (pc := 58) (i := 2) dX10_text_58 rfl (lnl_v rfl rfl) (Nat.le_of_ble_eq_true rfl) ?_
    refine ev_aload_n (pc := 59) (i := 0) dX10_text_59 rfl rfl ?_
    refine ev_iconst (pc := 60) dX10_text_60 ?_
    refine evB_putI (pc := 61) (c9 := 10) (k9 := 6) (kI := 6) dX10_text_61 fl_Md_109 hs7 (by decide) (fun q hq => by cases hq; rfl) rfl rfl rfl ?_
    refine ev_puG hL (fun h12 hL => ?_)
    refine ev_iload_n (pc := 64) (i := 1) dX10_text_64 rfl rfl ?_
    refine ev_iconst (pc := 65) dX10_text_65 ?_
    refine ev_icmp_ne (pc := 66) (tgt := 130) dX10_text_66 rfl hL rfl (fun hL => ?_) (fun hL => ?_)
    · refine ev_iconst (pc := 69) dX10_text_69 ?_
      refine ev_istore_n (pc := 70) (i := 3) dX10_text_70 rfl (lnl_v rfl rfl) (Nat.le_of_ble_eq_true rfl) ?_
      exact ev_le (lvle_s (lvle_n (lvle_s (lvle_s lvle_z)))) (KMd_text_b71  hL)
    · refine ev_iload_n (pc := 130) (i := 1) dX10_text_130 rfl rfl ?_
      refine ev_iconst (pc := 131) dX10_text_131 ?_
      refine ev_icmp_ne (pc := 132) (tgt := 205) dX10_text_132 rfl hL rfl (fun hL => ?_) (fun hL => ?_)
      · refine ev_iconst (pc := 135) dX10_text_135 ?_
        refine ev_istore_n (pc := 136) (i := 3) dX10_text_136 rfl (lnl_v rfl rfl) (Nat.le_of_ble_eq_true rfl) ?_
        exact ev_le (lvle_s (lvle_n (lvle_n (lvle_s lvle_z)))) (KMd_text_b137  hL)
      · refine ev_aload_n (pc := 205) (i := 0) dX10_text_205 rfl rfl ?_
        refine ev_aload_n (pc := 206) (i := 0) dX10_text_206 rfl rfl ?_
        refine ev_get (pc := 207) (c9 := 10) (k9 := 28) dX10_text_207 fl_Md_245 (by decide) hs7 gv10_28 ?_
        refine evB_putI (pc := 210) (c9 := 10) (k9 := 26) (kI := 26) dX10_text_210 fl_Md_294 hs7 (by decide) (fun q hq => by cases hq; rfl) rfl rfl rfl ?_
        refine ev_puG hL (fun h30 hL => ?_)
        refine ev_aload_n (pc := 213) (i := 0) dX10_text_213 rfl rfl ?_
        refine ev_aload_n (pc := 214) (i := 0) dX10_text_214 rfl rfl ?_
        refine ev_get (pc := 215) (c9 := 10) (k9 := 29) dX10_text_215 fl_Md_248 (by decide) hs7 gv10_29 ?_
        refine evB_putI (pc := 218) (c9 := 10) (k9 := 27) (kI := 27) dX10_text_218 fl_Md_297 hs7 (by decide) (fun q hq => by cases hq; rfl) rfl rfl rfl ?_
        refine ev_puG hL (fun h31 hL => ?_)
        refine ev_iconst (pc := 221) dX10_text_221 ?_
        refine ev_istore_n (pc := 222) (i := 3) dX10_text_222 rfl (lnl_v rfl rfl) (Nat.le_of_ble_eq_true rfl) ?_
        exact ev_le (lvle_s (lvle_n (lvle_n (lvle_s lvle_z)))) (KMd_text_b223  hL)
  · refine ev_iconst (pc := 52) dX10_text_52 ?_
    exact evB_iret (pc := 53) dX10_text_53 rfl hL
set_option maxHeartbeats 1000000 in
set_option maxRecDepth 100000 in
theorem KMd_text_b30 {ω : Wd} {z : Nat → Prop}  {h h' : Hp} {x0 x1 r : Int}  (hL : Md_text_b30 h x0 x1 = some (r, h')) : EvB ω N_Md_text 1303 (QB (some (iV r)) z h') z h 30 [some (aV ω x0), some (iV x1), none, none] [] := by
  unfold Md_text_b30 at hL
  refine ev_iload_n (pc := 30) (i := 1) dX10_text_30 rfl rfl ?_
  refine ev_iconst (pc := 31) dX10_text_31 ?_
  refine ev_icmp_ne (pc := 32) (tgt := 43) dX10_text_32 rfl hL rfl (fun hL => ?_) (fun hL => ?_)
  · refine ev_aload_n (pc := 35) (i := 0) dX10_text_35 rfl rfl ?_
    obtain ⟨hs6, hL⟩ := cC_un hL
    refine ev_get (pc := 36) (c9 := 10) (k9 := 30) dX10_text_36 fl_Md_289 (by decide) hs6 gv10_30 ?_
    refine ev_iconst (pc := 39) dX10_text_39 ?_
    refine ev_icmp_eq (pc := 40) (tgt := 52) dX10_text_40 rfl hL rfl (fun hL => ?_) (fun hL => ?_)
    · refine ev_iconst (pc := 52) dX10_text_52 ?_
      exact evB_iret (pc := 53) dX10_text_53 rfl hL
    · exact ev_le (lvle_s (lvle_s (lvle_n (lvle_n lvle_z)))) (KMd_text_b43  hL)
  · exact ev_le (lvle_s (lvle_s (lvle_n (lvle_n lvle_z)))) (KMd_text_b43  hL)
set_option maxHeartbeats 1000000 in
set_option maxRecDepth 100000 in
theorem M_Md_text {ω : Wd} {z : Nat → Prop} {h h' : Hp} {a0 a1 r : Int}  (hL : Md_text h a0 a1 = some (r, h')) : CtB ω N_Md_text 1303 [aV ω a0, iV a1] z h (some (iV r)) h' := by
  unfold Md_text at hL
  refine Ct_of (lv := [some (aV ω a0), some (iV a1), none, none]) (by decide) (Nat.le_trans (sl_1 (cat_aV _ _) (sl_1 (cat_iV _) sl_z)) (Nat.le_of_ble_eq_true rfl)) (la_1 (cat_aV _ _) (la_1 (cat_iV _) (la_n (la_n la_z)))) ?_
  refine ev_aload_n (pc := 0) (i := 0) dX10_text_0 rfl rfl ?_
  refine ev_iconst (pc := 1) dX10_text_1 ?_
  obtain ⟨hs1, hL⟩ := cC_un hL
  refine evB_putI (pc := 2) (c9 := 10) (k9 := 0) (kI := 0) dX10_text_2 fl_Md_96 hs1 (by decide) (fun q hq => by cases hq; rfl) rfl rfl rfl ?_
  refine ev_puG hL (fun h2 hL => ?_)
  refine ev_iload_n (pc := 5) (i := 1) dX10_text_5 rfl rfl ?_
  refine ev_i2l (pc := 6) dX10_text_6 ?_
  refine ev_lconst (pc := 7) (x := 0) dX10_text_7 rfl ?_
  refine ev_ldc2 (pc := 8) (x := 2) dX10_text_8 w_l_Md_275 ?_
  obtain ⟨r3, h4, hc5, hL⟩ := cl_un hL
  refine evB_callS_I (pc := 11) (M_Md_isIn hc5) dX10_text_11 mt_Md_isIn st_Md_isIn ml_Md_217 (Nat.le_of_ble_eq_true rfl) rfl rfl (Nat.le_trans sm_z (by decide)) ?_
  refine ev_if_eq (pc := 14) (tgt := 52) dX10_text_14 rfl hL rfl (fun hL => ?_) (fun hL => ?_)
  · refine ev_iconst (pc := 52) dX10_text_52 ?_
    exact evB_iret (pc := 53) dX10_text_53 rfl hL
  · refine ev_iload_n (pc := 17) (i := 1) dX10_text_17 rfl rfl ?_
    refine ev_iconst (pc := 18) dX10_text_18 ?_
    refine ev_icmp_ne (pc := 19) (tgt := 30) dX10_text_19 rfl hL rfl (fun hL => ?_) (fun hL => ?_)
    · refine ev_aload_n (pc := 22) (i := 0) dX10_text_22 rfl rfl ?_
      refine ev_get (pc := 23) (c9 := 10) (k9 := 7) dX10_text_23 fl_Md_286 (by decide) hs1 gv10_7 ?_
      refine ev_iconst (pc := 26) dX10_text_26 ?_
      refine ev_icmp_eq (pc := 27) (tgt := 52) dX10_text_27 rfl hL rfl (fun hL => ?_) (fun hL => ?_)
      · refine ev_iconst (pc := 52) dX10_text_52 ?_
        exact evB_iret (pc := 53) dX10_text_53 rfl hL
      · exact ev_le (lvle_s (lvle_s (lvle_n (lvle_n lvle_z)))) (KMd_text_b30  hL)
    · exact ev_le (lvle_s (lvle_s (lvle_n (lvle_n lvle_z)))) (KMd_text_b30  hL)
set_option maxHeartbeats 1000000 in
set_option maxRecDepth 100000 in
theorem M_Md_thrown {ω : Wd} {z : Nat → Prop} {h h' : Hp} {a0 r : Int}  (hL : Md_thrown h a0 = some (r, h')) : CtB ω N_Md_thrown 1 [aV ω a0] z h (some (iV r)) h' := by
  unfold Md_thrown at hL
  refine Ct_of (lv := [some (aV ω a0)]) (by decide) (Nat.le_trans (sl_1 (cat_aV _ _) sl_z) (Nat.le_of_ble_eq_true rfl)) (la_1 (cat_aV _ _) la_z) ?_
  refine ev_aload_n (pc := 0) (i := 0) dX10_thrown_0 rfl rfl ?_
  obtain ⟨hs1, hL⟩ := cC_un hL
  refine ev_get (pc := 1) (c9 := 10) (k9 := 0) dX10_thrown_1 fl_Md_96 (by decide) hs1 gv10_0 ?_
  exact evB_iret (pc := 4) dX10_thrown_4 rfl hL
set_option maxHeartbeats 1000000 in
set_option maxRecDepth 100000 in
theorem M_Md_tonight {ω : Wd} {z : Nat → Prop} {h h' : Hp} {a0 r : Int}  (hL : Md_tonight h a0 = some (r, h')) : CtB ω N_Md_tonight 3 [aV ω a0] z h (some (iV r)) h' := by
  unfold Md_tonight at hL
  refine Ct_of (lv := [some (aV ω a0)]) (by decide) (Nat.le_trans (sl_1 (cat_aV _ _) sl_z) (Nat.le_of_ble_eq_true rfl)) (la_1 (cat_aV _ _) la_z) ?_
  refine ev_aload_n (pc := 0) (i := 0) dX10_tonight_0 rfl rfl ?_
  refine ev_iconst (pc := 1) dX10_tonight_1 ?_
  obtain ⟨hs1, hL⟩ := cC_un hL
  refine evB_putI (pc := 2) (c9 := 10) (k9 := 0) (kI := 0) dX10_tonight_2 fl_Md_96 hs1 (by decide) (fun q hq => by cases hq; rfl) rfl rfl rfl ?_
  refine ev_puG hL (fun h2 hL => ?_)
  refine ev_aload_n (pc := 5) (i := 0) dX10_tonight_5 rfl rfl ?_
  refine ev_get (pc := 6) (c9 := 10) (k9 := 26) dX10_tonight_6 fl_Md_294 (by decide) hs1 gv10_26 ?_
  refine ev_if_ne (pc := 9) (tgt := 14) dX10_tonight_9 rfl hL rfl (fun hL => ?_) (fun hL => ?_)
  · refine ev_iconst (pc := 12) dX10_tonight_12 ?_
    exact evB_iret (pc := 13) dX10_tonight_13 rfl hL
  · refine ev_aload_n (pc := 14) (i := 0) dX10_tonight_14 rfl rfl ?_
    refine ev_aload_n (pc := 15) (i := 0) dX10_tonight_15 rfl rfl ?_
    refine ev_get (pc := 16) (c9 := 10) (k9 := 32) dX10_tonight_16 fl_Md_61 (by decide) hs1 (gv10_32 hs1) ?_
    refine ev_iconst (pc := 19) dX10_tonight_19 ?_
    obtain ⟨r3, h4, hc5, hL⟩ := cl_un hL
    refine evB_callV_V (pc := 20) (M_Md_books hc5) dX10_tonight_20 mt_Md_books st_Md_books ml_Md_350 hs1 (by decide) ⟨_, rfl, rfl⟩ (Nat.le_of_ble_eq_true rfl) rfl rfl (Nat.le_trans sm_z (by decide)) ?_
    refine ev_aload_n (pc := 23) (i := 0) dX10_tonight_23 rfl rfl ?_
    obtain ⟨r6, h7, hc8, hL⟩ := cl_un hL
    refine evB_callV_I (pc := 24) (M_Md_rowOf hc8) dX10_tonight_24 mt_Md_rowOf st_Md_rowOf ml_Md_439 hs1 (by decide) ⟨_, rfl, rfl⟩ (Nat.le_of_ble_eq_true rfl) rfl rfl (Nat.le_trans sm_z (by decide)) ?_
    exact evB_iret (pc := 27) dX10_tonight_27 rfl hL
set_option maxHeartbeats 1000000 in
set_option maxRecDepth 100000 in
theorem KMd_undo_b26_body {ω : Wd} {z : Nat → Prop}  {k26 : Hp × Int × Int → Option (Int × Hp)} {h h' : Hp} {x0 x1 r : Int}  (hk26 : ∀ s o, k26 s = some o → EvB ω N_Md_undo 1 (QB (some (iV o.1)) z o.2) z s.1 26 [some (aV ω s.2.1), some (iV s.2.2)] []) (hL : Md_undo_b26_body  k26 h x0 x1 = some (r, h')) : EvB ω N_Md_undo 1 (QB (some (iV r)) z h') z h 26 [some (aV ω x0), some (iV x1)] [] := by
  unfold Md_undo_b26_body at hL
  refine ev_iload_n (pc := 26) (i := 1) dX10_undo_26 rfl rfl ?_
  refine ev_sipush (pc := 27) dX10_undo_27 (by decide) ?_
  refine ev_icmp_ge (pc := 30) (tgt := 60) dX10_undo_30 rfl hL rfl (fun hL => ?_) (fun hL => ?_)
  · refine ev_aload_n (pc := 33) (i := 0) dX10_undo_33 rfl rfl ?_
    obtain ⟨hs4, hL⟩ := cC_un hL
    refine ev_get (pc := 34) (c9 := 10) (k9 := 32) dX10_undo_34 fl_Md_61 (by decide) hs4 (gv10_32 hs4) ?_
    refine ev_iload_n (pc := 37) (i := 1) dX10_undo_37 rfl rfl ?_
    refine ev_aload_n (pc := 38) (i := 0) dX10_undo_38 rfl rfl ?_
    refine ev_get (pc := 39) (c9 := 10) (k9 := 41) dX10_undo_39 fl_Md_84 (by decide) hs4 (gv10_41 hs4) ?_
    refine ev_sipush (pc := 42) dX10_undo_42 (by decide) ?_
    refine ev_aload_n (pc := 45) (i := 0) dX10_undo_45 rfl rfl ?_
    refine ev_get (pc := 46) (c9 := 10) (k9 := 42) dX10_undo_46 fl_Md_303 (by decide) hs4 gv10_42 ?_
    refine ev_imul (pc := 49) dX10_undo_49 ?_
    refine ev_iload_n (pc := 50) (i := 1) dX10_undo_50 rfl rfl ?_
    refine ev_iadd (pc := 51) dX10_undo_51 ?_
    obtain ⟨q5a, q5b, q5c, hL⟩ := cX_un hL
    refine ev_iald (pc := 52) dX10_undo_52 q5a q5b q5c ?_
    obtain ⟨q6a, q6d, q6b, q6c, hL⟩ := cY_un hL
    refine ev_iast (pc := 53) dX10_undo_53 q6a q6d q6b q6c ?_
    refine ev_puG hL (fun h7 hL => ?_)
    refine ev_iinc (pc := 54) dX10_undo_54 rfl (lnl_v (cat_aV _ _) rfl) (Nat.le_of_ble_eq_true rfl) ?_
    refine ev_goto (pc := 57) (tgt := 26) dX10_undo_57 rfl ?_
    exact ev_le (lvle_s (lvle_s lvle_z)) (hk26 _ _ hL)
  · refine ev_aload_n (pc := 60) (i := 0) dX10_undo_60 rfl rfl ?_
    obtain ⟨hs8, hL⟩ := cC_un hL
    refine ev_get (pc := 61) (c9 := 10) (k9 := 42) dX10_undo_61 fl_Md_303 (by decide) hs8 gv10_42 ?_
    exact evB_iret (pc := 64) dX10_undo_64 rfl hL
set_option maxHeartbeats 1000000 in
set_option maxRecDepth 100000 in
theorem KMd_undo_b26 {ω : Wd} {z : Nat → Prop}  {h h' : Hp} {x0 x1 r : Int}  (hL : Md_undo_b26 h x0 x1 = some (r, h')) : EvB ω N_Md_undo 1 (QB (some (iV r)) z h') z h 26 [some (aV ω x0), some (iV x1)] [] := by
  unfold Md_undo_b26 at hL
  refine itr_link (P := fun (s : Hp × Int × Int) (o : Int × Hp) => EvB ω N_Md_undo 1 (QB (some (iV o.1)) z o.2) z s.1 26 [some (aV ω s.2.1), some (iV s.2.2)] []) ?_ _ _ _ hL
  intro k hk s o h9
  have h10 := KMd_undo_b26_body (ω := ω) (z := z) (k26 := k) (h := s.1) (x0 := s.2.1) (x1 := s.2.2) (r := o.1) (h' := o.2) 
  exact h10 hk h9
set_option maxHeartbeats 1000000 in
set_option maxRecDepth 100000 in
theorem M_Md_undo {ω : Wd} {z : Nat → Prop} {h h' : Hp} {a0 r : Int}  (hL : Md_undo h a0 = some (r, h')) : CtB ω N_Md_undo 1 [aV ω a0] z h (some (iV r)) h' := by
  unfold Md_undo at hL
  refine Ct_of (lv := [some (aV ω a0), none]) (by decide) (Nat.le_trans (sl_1 (cat_aV _ _) sl_z) (Nat.le_of_ble_eq_true rfl)) (la_1 (cat_aV _ _) (la_n la_z)) ?_
  refine ev_aload_n (pc := 0) (i := 0) dX10_undo_0 rfl rfl ?_
  refine ev_iconst (pc := 1) dX10_undo_1 ?_
  obtain ⟨hs1, hL⟩ := cC_un hL
  refine evB_putI (pc := 2) (c9 := 10) (k9 := 0) (kI := 0) dX10_undo_2 fl_Md_96 hs1 (by decide) (fun q hq => by cases hq; rfl) rfl rfl rfl ?_
  refine ev_puG hL (fun h2 hL => ?_)
  refine ev_aload_n (pc := 5) (i := 0) dX10_undo_5 rfl rfl ?_
  refine ev_get (pc := 6) (c9 := 10) (k9 := 42) dX10_undo_6 fl_Md_303 (by decide) hs1 gv10_42 ?_
  refine ev_if_ne (pc := 9) (tgt := 14) dX10_undo_9 rfl hL rfl (fun hL => ?_) (fun hL => ?_)
  · refine ev_iconst (pc := 12) dX10_undo_12 ?_
    exact evB_iret (pc := 13) dX10_undo_13 rfl hL
  · refine ev_aload_n (pc := 14) (i := 0) dX10_undo_14 rfl rfl ?_
    refine ev_dup (pc := 15) dX10_undo_15 (cat_aV _ _) ?_
    refine ev_get (pc := 16) (c9 := 10) (k9 := 42) dX10_undo_16 fl_Md_303 (by decide) hs1 gv10_42 ?_
    refine ev_iconst (pc := 19) dX10_undo_19 ?_
    refine ev_isub (pc := 20) dX10_undo_20 ?_
    refine evB_putI (pc := 21) (c9 := 10) (k9 := 42) (kI := 42) dX10_undo_21 fl_Md_303 hs1 (by decide) (fun q hq => by cases hq; rfl) rfl rfl rfl ?_
    refine ev_puG hL (fun h3 hL => ?_)
    refine ev_iconst (pc := 24) dX10_undo_24 ?_
    refine ev_istore_n (pc := 25) (i := 1) dX10_undo_25 rfl (lnl_v (cat_aV _ _) rfl) (Nat.le_of_ble_eq_true rfl) ?_
    exact ev_le (lvle_s (lvle_s lvle_z)) (KMd_undo_b26  hL)
set_option maxHeartbeats 1000000 in
set_option maxRecDepth 100000 in
theorem M_Md_wrong {ω : Wd} {z : Nat → Prop} {h h' : Hp} {a0 a1 a2 r : Int}  (hL : Md_wrong h a0 a1 a2 = some (r, h')) : CtB ω N_Md_wrong 1305 [aV ω a0, iV a1, iV a2] z h (some (iV r)) h' := by
  unfold Md_wrong at hL
  refine Ct_of (lv := [some (aV ω a0), some (iV a1), some (iV a2)]) (by decide) (Nat.le_trans (sl_1 (cat_aV _ _) (sl_1 (cat_iV _) (sl_1 (cat_iV _) sl_z))) (Nat.le_of_ble_eq_true rfl)) (la_1 (cat_aV _ _) (la_1 (cat_iV _) (la_1 (cat_iV _) la_z))) ?_
  refine ev_aload_n (pc := 0) (i := 0) dX10_wrong_0 rfl rfl ?_
  refine ev_iconst (pc := 1) dX10_wrong_1 ?_
  obtain ⟨hs1, hL⟩ := cC_un hL
  refine evB_putI (pc := 2) (c9 := 10) (k9 := 0) (kI := 0) dX10_wrong_2 fl_Md_96 hs1 (by decide) (fun q hq => by cases hq; rfl) rfl rfl rfl ?_
  refine ev_puG hL (fun h2 hL => ?_)
  refine ev_aload_n (pc := 5) (i := 0) dX10_wrong_5 rfl rfl ?_
  refine ev_iload_n (pc := 6) (i := 1) dX10_wrong_6 rfl rfl ?_
  obtain ⟨r3, h4, hc5, hL⟩ := cl_un hL
  refine evB_callV_I (pc := 7) (M_Md_isWrong hc5) dX10_wrong_7 mt_Md_isWrong st_Md_isWrong ml_Md_369 hs1 (by decide) ⟨_, rfl, rfl⟩ (Nat.le_of_ble_eq_true rfl) rfl rfl (Nat.le_trans sm_z (by decide)) ?_
  refine ev_if_eq (pc := 10) (tgt := 25) dX10_wrong_10 rfl hL rfl (fun hL => ?_) (fun hL => ?_)
  · refine ev_iconst (pc := 25) dX10_wrong_25 ?_
    exact evB_iret (pc := 26) dX10_wrong_26 rfl hL
  · refine ev_iload_n (pc := 13) (i := 2) dX10_wrong_13 rfl rfl ?_
    refine ev_i2l (pc := 14) dX10_wrong_14 ?_
    refine ev_lconst (pc := 15) (x := 0) dX10_wrong_15 rfl ?_
    refine ev_ldc2 (pc := 16) (x := 4) dX10_wrong_16 w_l_Md_372 ?_
    obtain ⟨r6, h7, hc8, hL⟩ := cl_un hL
    refine evB_callS_I (pc := 19) (M_Md_isIn hc8) dX10_wrong_19 mt_Md_isIn st_Md_isIn ml_Md_217 (Nat.le_of_ble_eq_true rfl) rfl rfl (Nat.le_trans sm_z (by decide)) ?_
    refine ev_if_ne (pc := 22) (tgt := 27) dX10_wrong_22 rfl hL rfl (fun hL => ?_) (fun hL => ?_)
    · refine ev_iconst (pc := 25) dX10_wrong_25 ?_
      exact evB_iret (pc := 26) dX10_wrong_26 rfl hL
    · refine ev_iload_n (pc := 27) (i := 2) dX10_wrong_27 rfl rfl ?_
      refine ev_iconst (pc := 28) dX10_wrong_28 ?_
      refine ev_icmp_ge (pc := 29) (tgt := 43) dX10_wrong_29 rfl hL rfl (fun hL => ?_) (fun hL => ?_)
      · refine ev_aload_n (pc := 32) (i := 0) dX10_wrong_32 rfl rfl ?_
        refine ev_get (pc := 33) (c9 := 10) (k9 := 22) dX10_wrong_33 fl_Md_49 (by decide) hs1 (gv10_22 hs1) ?_
        refine ev_iconst (pc := 36) dX10_wrong_36 ?_
        refine ev_iload_n (pc := 37) (i := 1) dX10_wrong_37 rfl rfl ?_
        refine ev_imul (pc := 38) dX10_wrong_38 ?_
        refine ev_iload_n (pc := 39) (i := 2) dX10_wrong_39 rfl rfl ?_
        refine ev_iadd (pc := 40) dX10_wrong_40 ?_
        obtain ⟨q9a, q9b, q9c, hL⟩ := cX_un hL
        refine ev_iald (pc := 41) dX10_wrong_41 q9a q9b q9c ?_
        exact evB_iret (pc := 42) dX10_wrong_42 rfl hL
      · refine ev_iload_n (pc := 43) (i := 2) dX10_wrong_43 rfl rfl ?_
        refine ev_iconst (pc := 44) dX10_wrong_44 ?_
        refine ev_icmp_ne (pc := 45) (tgt := 62) dX10_wrong_45 rfl hL rfl (fun hL => ?_) (fun hL => ?_)
        · refine ev_aload_n (pc := 48) (i := 0) dX10_wrong_48 rfl rfl ?_
          refine ev_get (pc := 49) (c9 := 10) (k9 := 32) dX10_wrong_49 fl_Md_61 (by decide) hs1 (gv10_32 hs1) ?_
          refine ev_bipush (pc := 52) dX10_wrong_52 (by decide) ?_
          obtain ⟨q10a, q10b, q10c, hL⟩ := cX_un hL
          refine ev_iald (pc := 54) dX10_wrong_54 q10a q10b q10c ?_
          refine ev_iload_n (pc := 55) (i := 1) dX10_wrong_55 rfl rfl ?_
          refine ev_ishr (pc := 56) dX10_wrong_56 ?_
          refine ev_iconst (pc := 57) dX10_wrong_57 ?_
          refine ev_iand (pc := 58) dX10_wrong_58 ?_
          refine ev_goto (pc := 59) (tgt := 98) dX10_wrong_59 rfl ?_
          exact evB_iret (pc := 98) dX10_wrong_98 rfl hL
        · refine ev_aload_n (pc := 62) (i := 0) dX10_wrong_62 rfl rfl ?_
          refine ev_aload_n (pc := 63) (i := 0) dX10_wrong_63 rfl rfl ?_
          refine ev_get (pc := 64) (c9 := 10) (k9 := 32) dX10_wrong_64 fl_Md_61 (by decide) hs1 (gv10_32 hs1) ?_
          refine ev_aload_n (pc := 67) (i := 0) dX10_wrong_67 rfl rfl ?_
          refine ev_get (pc := 68) (c9 := 10) (k9 := 22) dX10_wrong_68 fl_Md_49 (by decide) hs1 (gv10_22 hs1) ?_
          refine ev_iconst (pc := 71) dX10_wrong_71 ?_
          refine ev_iload_n (pc := 72) (i := 1) dX10_wrong_72 rfl rfl ?_
          refine ev_imul (pc := 73) dX10_wrong_73 ?_
          obtain ⟨q11a, q11b, q11c, hL⟩ := cX_un hL
          refine ev_iald (pc := 74) dX10_wrong_74 q11a q11b q11c ?_
          refine ev_aload_n (pc := 75) (i := 0) dX10_wrong_75 rfl rfl ?_
          refine ev_get (pc := 76) (c9 := 10) (k9 := 22) dX10_wrong_76 fl_Md_49 (by decide) hs1 (gv10_22 hs1) ?_
          refine ev_iconst (pc := 79) dX10_wrong_79 ?_
          refine ev_iload_n (pc := 80) (i := 1) dX10_wrong_80 rfl rfl ?_
          refine ev_imul (pc := 81) dX10_wrong_81 ?_
          refine ev_iconst (pc := 82) dX10_wrong_82 ?_
          refine ev_iadd (pc := 83) dX10_wrong_83 ?_
          obtain ⟨q12a, q12b, q12c, hL⟩ := cX_un hL
          refine ev_iald (pc := 84) dX10_wrong_84 q12a q12b q12c ?_
          refine ev_aload_n (pc := 85) (i := 0) dX10_wrong_85 rfl rfl ?_
          refine ev_get (pc := 86) (c9 := 10) (k9 := 22) dX10_wrong_86 fl_Md_49 (by decide) hs1 (gv10_22 hs1) ?_
          refine ev_iconst (pc := 89) dX10_wrong_89 ?_
          refine ev_iload_n (pc := 90) (i := 1) dX10_wrong_90 rfl rfl ?_
          refine ev_imul (pc := 91) dX10_wrong_91 ?_
          refine ev_iconst (pc := 92) dX10_wrong_92 ?_
          refine ev_iadd (pc := 93) dX10_wrong_93 ?_
          obtain ⟨q13a, q13b, q13c, hL⟩ := cX_un hL
          refine ev_iald (pc := 94) dX10_wrong_94 q13a q13b q13c ?_
          obtain ⟨r14, h15, hc16, hL⟩ := cl_un hL
          refine evB_callV_I (pc := 95) (M_Md_worthNow hc16) dX10_wrong_95 mt_Md_worthNow st_Md_worthNow ml_Md_374 hs1 (by decide) ⟨_, rfl, rfl⟩ (Nat.le_of_ble_eq_true rfl) rfl rfl (Nat.le_trans sm_z (by decide)) ?_
          exact evB_iret (pc := 98) dX10_wrong_98 rfl hL
set_option maxHeartbeats 1000000 in
set_option maxRecDepth 100000 in
theorem KMd_years_b122 {ω : Wd} {z : Nat → Prop} {k49 : Hp × Int × Int × Int → Option (Int × Hp)} {h h' : Hp} {x0 x1 x4 r : Int} (hk49 : ∀ s o, k49 s = some o → EvB ω N_Md_years 5 (QB (some (iV o.1)) z o.2) z s.1 49 [some (aV ω s.2.1), some (iV s.2.2.1), none, none, some (iV s.2.2.2), none, none, none] []) (hL : Md_years_b122 k49 h x0 x1 x4 = some (r, h')) : EvB ω N_Md_years 5 (QB (some (iV r)) z h') z h 122 [some (aV ω x0), some (iV x1), none, none, some (iV x4), none, none, none] [] := by
  unfold Md_years_b122 at hL
  refine ev_aload_n (pc := 122) (i := 0) dX10_years_122 rfl rfl ?_
  refine ev_aload_n (pc := 123) (i := 0) dX10_years_123 rfl rfl ?_
  obtain ⟨hs25, hL⟩ := cC_un hL
  refine ev_get (pc := 124) (c9 := 10) (k9 := 32) dX10_years_124 fl_Md_61 (by decide) hs25 (gv10_32 hs25) ?_
  refine ev_iconst (pc := 127) dX10_years_127 ?_
  obtain ⟨r26, h27, hc28, hL⟩ := cl_un hL
  refine evB_callV_I (pc := 128) (M_Md_goEvening hc28) dX10_years_128 mt_Md_goEvening st_Md_goEvening ml_Md_390 hs25 (by decide) ⟨_, rfl, rfl⟩ (Nat.le_of_ble_eq_true rfl) rfl rfl (Nat.le_trans sm_z (by decide)) ?_
  refine ev_istore (pc := 131) dX10_years_131 (lnl_v rfl rfl) (Nat.le_of_ble_eq_true rfl) ?_
  refine ev_iinc (pc := 133) dX10_years_133 rfl (lnl_n rfl) (Nat.le_of_ble_eq_true rfl) ?_
  refine ev_goto (pc := 136) (tgt := 49) dX10_years_136 rfl ?_
  exact ev_le (lvle_s (lvle_s (lvle_n (lvle_n (lvle_s (lvle_n (lvle_n (lvle_n lvle_z)))))))) (hk49 _ _ hL)
set_option maxHeartbeats 1000000 in
set_option maxRecDepth 100000 in
theorem KMd_years_b49_body {ω : Wd} {z : Nat → Prop}  {k49 : Hp × Int × Int × Int → Option (Int × Hp)} {h h' : Hp} {x0 x1 x4 r : Int}  (hk49 : ∀ s o, k49 s = some o → EvB ω N_Md_years 5 (QB (some (iV o.1)) z o.2) z s.1 49 [some (aV ω s.2.1), some (iV s.2.2.1), none, none, some (iV s.2.2.2), none, none, none] []) (hL : Md_years_b49_body  k49 h x0 x1 x4 = some (r, h')) : EvB ω N_Md_years 5 (QB (some (iV r)) z h') z h 49 [some (aV ω x0), some (iV x1), none, none, some (iV x4), none, none, none] [] := by
  unfold Md_years_b49_body at hL
  refine ev_iload (pc := 49) dX10_years_49 rfl ?_
  refine ev_iload_n (pc := 51) (i := 1) dX10_years_51 rfl rfl ?_
  refine ev_icmp_ge (pc := 52) (tgt := 139) dX10_years_52 rfl hL rfl (fun hL => ?_) (fun hL => ?_)
  · refine ev_aload_n (pc := 55) (i := 0) dX10_years_55 rfl rfl ?_
    obtain ⟨hs8, hL⟩ := cC_un hL
    obtain ⟨r9, h10, hc11, hL⟩ := cl_un hL
    refine evB_callV_V (pc := 56) (M_Md_remember hc11) dX10_years_56 mt_Md_remember st_Md_remember ml_Md_384 hs8 (by decide) ⟨_, rfl, rfl⟩ (Nat.le_of_ble_eq_true rfl) rfl rfl (Nat.le_trans sm_z (by decide)) ?_
    refine ev_aload_n (pc := 59) (i := 0) dX10_years_59 rfl rfl ?_
    refine ev_bipush (pc := 60) dX10_years_60 (by decide) ?_
    obtain ⟨r12, h13, hc14, hL⟩ := cl_un hL
    refine evB_callV_I (pc := 62) (M_Md_draw hc14) dX10_years_62 mt_Md_draw st_Md_draw ml_Md_422 hs8 (by decide) ⟨_, rfl, rfl⟩ (Nat.le_of_ble_eq_true rfl) rfl rfl (Nat.le_trans sm_z (by decide)) ?_
    refine ev_aload_n (pc := 65) (i := 0) dX10_years_65 rfl rfl ?_
    refine ev_get (pc := 66) (c9 := 10) (k9 := 35) dX10_years_66 fl_Md_71 (by decide) hs8 gv10_35 ?_
    refine ev_icmp_ge (pc := 69) (tgt := 122) dX10_years_69 rfl hL rfl (fun hL => ?_) (fun hL => ?_)
    · refine ev_aload_n (pc := 72) (i := 0) dX10_years_72 rfl rfl ?_
      refine ev_aload_n (pc := 73) (i := 0) dX10_years_73 rfl rfl ?_
      refine ev_get (pc := 74) (c9 := 10) (k9 := 26) dX10_years_74 fl_Md_294 (by decide) hs8 gv10_26 ?_
      obtain ⟨r15, h16, hc17, hL⟩ := cl_un hL
      refine evB_callV_I (pc := 77) (M_Md_draw hc17) dX10_years_77 mt_Md_draw st_Md_draw ml_Md_422 hs8 (by decide) ⟨_, rfl, rfl⟩ (Nat.le_of_ble_eq_true rfl) rfl rfl (Nat.le_trans sm_z (by decide)) ?_
      refine ev_istore (pc := 80) dX10_years_80 (lnl_v rfl rfl) (Nat.le_of_ble_eq_true rfl) ?_
      refine ev_aload_n (pc := 82) (i := 0) dX10_years_82 rfl rfl ?_
      refine ev_aload_n (pc := 83) (i := 0) dX10_years_83 rfl rfl ?_
      refine ev_get (pc := 84) (c9 := 10) (k9 := 26) dX10_years_84 fl_Md_294 (by decide) hs8 gv10_26 ?_
      obtain ⟨r18, h19, hc20, hL⟩ := cl_un hL
      refine evB_callV_I (pc := 87) (M_Md_draw hc20) dX10_years_87 mt_Md_draw st_Md_draw ml_Md_422 hs8 (by decide) ⟨_, rfl, rfl⟩ (Nat.le_of_ble_eq_true rfl) rfl rfl (Nat.le_trans sm_z (by decide)) ?_
      refine ev_istore (pc := 90) dX10_years_90 (lnl_v rfl rfl) (Nat.le_of_ble_eq_true rfl) ?_
      refine ev_aload_n (pc := 92) (i := 0) dX10_years_92 rfl rfl ?_
      refine ev_bipush (pc := 93) dX10_years_93 (by decide) ?_
      obtain ⟨r21, h22, hc23, hL⟩ := cl_un hL
      refine evB_callV_I (pc := 95) (M_Md_draw hc23) dX10_years_95 mt_Md_draw st_Md_draw ml_Md_422 hs8 (by decide) ⟨_, rfl, rfl⟩ (Nat.le_of_ble_eq_true rfl) rfl rfl (Nat.le_trans sm_z (by decide)) ?_
      refine ev_iconst (pc := 98) dX10_years_98 ?_
      refine ev_iadd (pc := 99) dX10_years_99 ?_
      refine ev_bdI hL (fun v24 hL => ?_)
      refine ev_istore (pc := 100) dX10_years_100 (lnl_v rfl rfl) (Nat.le_of_ble_eq_true rfl) ?_
      refine ev_iload (pc := 102) dX10_years_102 rfl ?_
      refine ev_iload (pc := 104) dX10_years_104 rfl ?_
      refine ev_icmp_eq (pc := 106) (tgt := 122) dX10_years_106 rfl hL rfl (fun hL => ?_) (fun hL => ?_)
      · exact ev_le (lvle_s (lvle_s (lvle_n (lvle_n (lvle_s (lvle_n (lvle_n (lvle_n lvle_z)))))))) (KMd_years_b122 hk49 hL)
      · refine ev_aload_n (pc := 109) (i := 0) dX10_years_109 rfl rfl ?_
        refine ev_get (pc := 110) (c9 := 10) (k9 := 32) dX10_years_110 fl_Md_61 (by decide) hs8 (gv10_32 hs8) ?_
        refine ev_iload (pc := 113) dX10_years_113 rfl ?_
        refine ev_iload (pc := 115) dX10_years_115 rfl ?_
        refine ev_iload (pc := 117) dX10_years_117 rfl ?_
        obtain ⟨r29, h30, hc31, hL⟩ := cl_un hL
        refine evB_callS_V (pc := 119) (M_Md_adds hc31) dX10_years_119 mt_Md_adds st_Md_adds ml_Md_347 (Nat.le_of_ble_eq_true rfl) rfl rfl (Nat.le_trans sm_z (by decide)) ?_
        exact ev_le (lvle_s (lvle_s (lvle_n (lvle_n (lvle_s (lvle_n (lvle_n (lvle_n lvle_z)))))))) (KMd_years_b122 hk49 hL)
    · exact ev_le (lvle_s (lvle_s (lvle_n (lvle_n (lvle_s (lvle_n (lvle_n (lvle_n lvle_z)))))))) (KMd_years_b122 hk49 hL)
  · refine ev_aload_n (pc := 139) (i := 0) dX10_years_139 rfl rfl ?_
    obtain ⟨hs32, hL⟩ := cC_un hL
    refine ev_get (pc := 140) (c9 := 10) (k9 := 32) dX10_years_140 fl_Md_61 (by decide) hs32 (gv10_32 hs32) ?_
    refine ev_bipush (pc := 143) dX10_years_143 (by decide) ?_
    obtain ⟨q33a, q33b, q33c, hL⟩ := cX_un hL
    refine ev_iald (pc := 145) dX10_years_145 q33a q33b q33c ?_
    exact evB_iret (pc := 146) dX10_years_146 rfl hL
set_option maxHeartbeats 1000000 in
set_option maxRecDepth 100000 in
theorem KMd_years_b49 {ω : Wd} {z : Nat → Prop}  {h h' : Hp} {x0 x1 x4 r : Int}  (hL : Md_years_b49 h x0 x1 x4 = some (r, h')) : EvB ω N_Md_years 5 (QB (some (iV r)) z h') z h 49 [some (aV ω x0), some (iV x1), none, none, some (iV x4), none, none, none] [] := by
  unfold Md_years_b49 at hL
  refine itr_link (P := fun (s : Hp × Int × Int × Int) (o : Int × Hp) => EvB ω N_Md_years 5 (QB (some (iV o.1)) z o.2) z s.1 49 [some (aV ω s.2.1), some (iV s.2.2.1), none, none, some (iV s.2.2.2), none, none, none] []) ?_ _ _ _ hL
  intro k hk s o h9
  have h10 := KMd_years_b49_body (ω := ω) (z := z) (k49 := k) (h := s.1) (x0 := s.2.1) (x1 := s.2.2.1) (x4 := s.2.2.2) (r := o.1) (h' := o.2) 
  exact h10 hk h9
set_option maxHeartbeats 1000000 in
set_option maxRecDepth 100000 in
theorem M_Md_years {ω : Wd} {z : Nat → Prop} {h h' : Hp} {a0 a1 a2 r : Int}  (hL : Md_years h a0 a1 a2 = some (r, h')) : CtB ω N_Md_years 5 [aV ω a0, iV a1, lV a2] z h (some (iV r)) h' := by
  unfold Md_years at hL
  refine Ct_of (lv := [some (aV ω a0), some (iV a1), some (lV a2), none, none, none, none, none]) (by decide) (Nat.le_trans (sl_1 (cat_aV _ _) (sl_1 (cat_iV _) (sl_2 (cat_lV _) sl_z))) (Nat.le_of_ble_eq_true rfl)) (la_1 (cat_aV _ _) (la_1 (cat_iV _) (la_2 (cat_lV _) (la_n (la_n (la_n (la_n la_z))))))) ?_
  refine ev_aload_n (pc := 0) (i := 0) dX10_years_0 rfl rfl ?_
  refine ev_iconst (pc := 1) dX10_years_1 ?_
  obtain ⟨hs1, hL⟩ := cC_un hL
  refine evB_putI (pc := 2) (c9 := 10) (k9 := 0) (kI := 0) dX10_years_2 fl_Md_96 hs1 (by decide) (fun q hq => by cases hq; rfl) rfl rfl rfl ?_
  refine ev_puG hL (fun h2 hL => ?_)
  refine ev_aload_n (pc := 5) (i := 0) dX10_years_5 rfl rfl ?_
  refine ev_get (pc := 6) (c9 := 10) (k9 := 26) dX10_years_6 fl_Md_294 (by decide) hs1 gv10_26 ?_
  refine ev_if_eq (pc := 9) (tgt := 39) dX10_years_9 rfl hL rfl (fun hL => ?_) (fun hL => ?_)
  · refine ev_iconst (pc := 39) dX10_years_39 ?_
    exact evB_iret (pc := 40) dX10_years_40 rfl hL
  · refine ev_iload_n (pc := 12) (i := 1) dX10_years_12 rfl rfl ?_
    refine ev_i2l (pc := 13) dX10_years_13 ?_
    refine ev_lconst (pc := 14) (x := 1) dX10_years_14 rfl ?_
    refine ev_ldc2 (pc := 15) (x := 30) dX10_years_15 w_l_Md_420 ?_
    obtain ⟨r3, h4, hc5, hL⟩ := cl_un hL
    refine evB_callS_I (pc := 18) (M_Md_isIn hc5) dX10_years_18 mt_Md_isIn st_Md_isIn ml_Md_217 (Nat.le_of_ble_eq_true rfl) rfl rfl (Nat.le_trans sm_z (by decide)) ?_
    refine ev_if_eq (pc := 21) (tgt := 39) dX10_years_21 rfl hL rfl (fun hL => ?_) (fun hL => ?_)
    · refine ev_iconst (pc := 39) dX10_years_39 ?_
      exact evB_iret (pc := 40) dX10_years_40 rfl hL
    · refine ev_aload_n (pc := 24) (i := 0) dX10_years_24 rfl rfl ?_
      refine ev_get (pc := 25) (c9 := 10) (k9 := 32) dX10_years_25 fl_Md_61 (by decide) hs1 (gv10_32 hs1) ?_
      refine ev_bipush (pc := 28) dX10_years_28 (by decide) ?_
      obtain ⟨q6a, q6b, q6c, hL⟩ := cX_un hL
      refine ev_iald (pc := 30) dX10_years_30 q6a q6b q6c ?_
      refine ev_iload_n (pc := 31) (i := 1) dX10_years_31 rfl rfl ?_
      refine ev_iadd (pc := 32) dX10_years_32 ?_
      refine ev_sipush (pc := 33) dX10_years_33 (by decide) ?_
      refine ev_icmp_le (pc := 36) (tgt := 41) dX10_years_36 rfl hL rfl (fun hL => ?_) (fun hL => ?_)
      · refine ev_iconst (pc := 39) dX10_years_39 ?_
        exact evB_iret (pc := 40) dX10_years_40 rfl hL
      · refine ev_aload_n (pc := 41) (i := 0) dX10_years_41 rfl rfl ?_
        refine ev_lload_n (pc := 42) (i := 2) dX10_years_42 rfl rfl ?_
        refine evB_putL (pc := 43) (c9 := 10) (k9 := 43) (kI := 43) dX10_years_43 fl_Md_412 hs1 (by decide) (fun q hq => by cases hq; rfl) rfl rfl rfl ?_
        refine ev_puG hL (fun h7 hL => ?_)
        refine ev_iconst (pc := 46) dX10_years_46 ?_
        refine ev_istore (pc := 47) dX10_years_47 (lnl_n rfl) (Nat.le_of_ble_eq_true rfl) ?_
        exact ev_le (lvle_s (lvle_s (lvle_n (lvle_n (lvle_s (lvle_n (lvle_n (lvle_n lvle_z)))))))) (KMd_years_b49  hL)
