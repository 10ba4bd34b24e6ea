section LawStart
theorem kn_La_8 : NL RL 8 9 := ⟨(RX9, TX9, 20), rfl, WS_of (w := Cond.classLink RL 8 RX9) (by decide +kernel) (by decide +kernel), WS_of (w := Cond.instantiable RX9 20) (by decide +kernel) (by decide +kernel), WS_of (w := Cond.initialized RX9) (by decide +kernel) (by decide +kernel)⟩
theorem kn_La_16 : NL RL 16 10 := ⟨(RX10, TX10, 54), rfl, WS_of (w := Cond.classLink RL 16 RX10) (by decide +kernel) (by decide +kernel), WS_of (w := Cond.instantiable RX10 54) (by decide +kernel) (by decide +kernel), WS_of (w := Cond.initialized RX10) (by decide +kernel) (by decide +kernel)⟩
theorem kl_La_15 : ML RL 15 yX9_init := Or.inl (WS_of (w := Cond.methodLink RL 15 yX9_init) (by decide +kernel) (by decide +kernel))
theorem kl_La_18 : ML RL 18 yX10_init := Or.inl (WS_of (w := Cond.methodLink RL 18 yX10_init) (by decide +kernel) (by decide +kernel))
theorem fresh_9 {ω : Wd} {h : Hp} {pt : Ptr} {a : Int} (h2 : ∀ k : Nat, k < 20 → fkd 9 k = 2 → pt a k = -1) (h3 : ∀ k : Nat, k < 20 → fkd 9 k = 3 → h a k = -1) (h0 : ∀ k : Nat, k < 20 → fkd 9 k < 2 → h a k = 0) : ∀ q, vwCl[9]? = some q → q.2.2 = 20 ∧ ∀ k : Nat, k < 20 → fV ω pt h (fkd 9 k) a k = defaultValue (tyf 9 k) := by
  intro q hq
  cases hq
  refine ⟨rfl, fun k hk => ?_⟩
  match k, hk with
  | 0, hk => show aV ω (pt a ((0 : Nat) : Int)) = _; rw [h2 0 hk (by decide)]; rfl
  | 1, hk => show aV ω (h a ((1 : Nat) : Int)) = _; rw [h3 1 hk (by decide)]; rfl
  | 2, hk => show aV ω (h a ((2 : Nat) : Int)) = _; rw [h3 2 hk (by decide)]; rfl
  | 3, hk => show aV ω (pt a ((3 : Nat) : Int)) = _; rw [h2 3 hk (by decide)]; rfl
  | 4, hk => show aV ω (pt a ((4 : Nat) : Int)) = _; rw [h2 4 hk (by decide)]; rfl
  | 5, hk => show iV (h a ((5 : Nat) : Int)) = _; rw [h0 5 hk (by decide)]; rfl
  | 6, hk => show iV (h a ((6 : Nat) : Int)) = _; rw [h0 6 hk (by decide)]; rfl
  | 7, hk => show iV (h a ((7 : Nat) : Int)) = _; rw [h0 7 hk (by decide)]; rfl
  | 8, hk => show iV (h a ((8 : Nat) : Int)) = _; rw [h0 8 hk (by decide)]; rfl
  | 9, hk => show aV ω (pt a ((9 : Nat) : Int)) = _; rw [h2 9 hk (by decide)]; rfl
  | 10, hk => show aV ω (pt a ((10 : Nat) : Int)) = _; rw [h2 10 hk (by decide)]; rfl
  | 11, hk => show aV ω (pt a ((11 : Nat) : Int)) = _; rw [h2 11 hk (by decide)]; rfl
  | 12, hk => show iV (h a ((12 : Nat) : Int)) = _; rw [h0 12 hk (by decide)]; rfl
  | 13, hk => show aV ω (pt a ((13 : Nat) : Int)) = _; rw [h2 13 hk (by decide)]; rfl
  | 14, hk => show aV ω (pt a ((14 : Nat) : Int)) = _; rw [h2 14 hk (by decide)]; rfl
  | 15, hk => show aV ω (pt a ((15 : Nat) : Int)) = _; rw [h2 15 hk (by decide)]; rfl
  | 16, hk => show aV ω (pt a ((16 : Nat) : Int)) = _; rw [h2 16 hk (by decide)]; rfl
  | 17, hk => show aV ω (pt a ((17 : Nat) : Int)) = _; rw [h2 17 hk (by decide)]; rfl
  | 18, hk => show aV ω (pt a ((18 : Nat) : Int)) = _; rw [h2 18 hk (by decide)]; rfl
  | 19, hk => show lV (h a ((19 : Nat) : Int)) = _; rw [h0 19 hk (by decide)]; rfl
  | n + 20, hk => exact absurd hk (by omega)
set_option maxHeartbeats 1000000 in
theorem fresh_10 {ω : Wd} {h : Hp} {pt : Ptr} {a : Int} (h2 : ∀ k : Nat, k < 54 → fkd 10 k = 2 → pt a k = -1) (h3 : ∀ k : Nat, k < 54 → fkd 10 k = 3 → h a k = -1) (h0 : ∀ k : Nat, k < 54 → fkd 10 k < 2 → h a k = 0) : ∀ q, vwCl[10]? = some q → q.2.2 = 54 ∧ ∀ k : Nat, k < 54 → fV ω pt h (fkd 10 k) a k = defaultValue (tyf 10 k) := by
  intro q hq
  cases hq
  refine ⟨rfl, fun k hk => ?_⟩
  match k, hk with
  | 0, hk => show iV (h a ((0 : Nat) : Int)) = _; rw [h0 0 hk (by decide)]; rfl
  | 1, hk => show aV ω (pt a ((1 : Nat) : Int)) = _; rw [h2 1 hk (by decide)]; rfl
  | 2, hk => show aV ω (pt a ((2 : Nat) : Int)) = _; rw [h2 2 hk (by decide)]; rfl
  | 3, hk => show aV ω (pt a ((3 : Nat) : Int)) = _; rw [h2 3 hk (by decide)]; rfl
  | 4, hk => show aV ω (pt a ((4 : Nat) : Int)) = _; rw [h2 4 hk (by decide)]; rfl
  | 5, hk => show aV ω (h a ((5 : Nat) : Int)) = _; rw [h3 5 hk (by decide)]; rfl
  | 6, hk => show iV (h a ((6 : Nat) : Int)) = _; rw [h0 6 hk (by decide)]; rfl
  | 7, hk => show iV (h a ((7 : Nat) : Int)) = _; rw [h0 7 hk (by decide)]; rfl
  | 8, hk => show iV (h a ((8 : Nat) : Int)) = _; rw [h0 8 hk (by decide)]; rfl
  | 9, hk => show iV (h a ((9 : Nat) : Int)) = _; rw [h0 9 hk (by decide)]; rfl
  | 10, hk => show iV (h a ((10 : Nat) : Int)) = _; rw [h0 10 hk (by decide)]; rfl
  | 11, hk => show iV (h a ((11 : Nat) : Int)) = _; rw [h0 11 hk (by decide)]; rfl
  | 12, hk => show iV (h a ((12 : Nat) : Int)) = _; rw [h0 12 hk (by decide)]; rfl
  | 13, hk => show iV (h a ((13 : Nat) : Int)) = _; rw [h0 13 hk (by decide)]; rfl
  | 14, hk => show iV (h a ((14 : Nat) : Int)) = _; rw [h0 14 hk (by decide)]; rfl
  | 15, hk => show aV ω (pt a ((15 : Nat) : Int)) = _; rw [h2 15 hk (by decide)]; rfl
  | 16, hk => show aV ω (pt a ((16 : Nat) : Int)) = _; rw [h2 16 hk (by decide)]; rfl
  | 17, hk => show iV (h a ((17 : Nat) : Int)) = _; rw [h0 17 hk (by decide)]; rfl
  | 18, hk => show aV ω (pt a ((18 : Nat) : Int)) = _; rw [h2 18 hk (by decide)]; rfl
  | 19, hk => show aV ω (pt a ((19 : Nat) : Int)) = _; rw [h2 19 hk (by decide)]; rfl
  | 20, hk => show aV ω (pt a ((20 : Nat) : Int)) = _; rw [h2 20 hk (by decide)]; rfl
  | 21, hk => show aV ω (pt a ((21 : Nat) : Int)) = _; rw [h2 21 hk (by decide)]; rfl
  | 22, hk => show aV ω (pt a ((22 : Nat) : Int)) = _; rw [h2 22 hk (by decide)]; rfl
  | 23, hk => show aV ω (pt a ((23 : Nat) : Int)) = _; rw [h2 23 hk (by decide)]; rfl
  | 24, hk => show aV ω (pt a ((24 : Nat) : Int)) = _; rw [h2 24 hk (by decide)]; rfl
  | 25, hk => show aV ω (pt a ((25 : Nat) : Int)) = _; rw [h2 25 hk (by decide)]; rfl
  | 26, hk => show iV (h a ((26 : Nat) : Int)) = _; rw [h0 26 hk (by decide)]; rfl
  | 27, hk => show iV (h a ((27 : Nat) : Int)) = _; rw [h0 27 hk (by decide)]; rfl
  | 28, hk => show iV (h a ((28 : Nat) : Int)) = _; rw [h0 28 hk (by decide)]; rfl
  | 29, hk => show iV (h a ((29 : Nat) : Int)) = _; rw [h0 29 hk (by decide)]; rfl
  | 30, hk => show iV (h a ((30 : Nat) : Int)) = _; rw [h0 30 hk (by decide)]; rfl
  | 31, hk => show iV (h a ((31 : Nat) : Int)) = _; rw [h0 31 hk (by decide)]; rfl
  | 32, hk => show aV ω (pt a ((32 : Nat) : Int)) = _; rw [h2 32 hk (by decide)]; rfl
  | 33, hk => show aV ω (pt a ((33 : Nat) : Int)) = _; rw [h2 33 hk (by decide)]; rfl
  | 34, hk => show iV (h a ((34 : Nat) : Int)) = _; rw [h0 34 hk (by decide)]; rfl
  | 35, hk => show iV (h a ((35 : Nat) : Int)) = _; rw [h0 35 hk (by decide)]; rfl
  | 36, hk => show aV ω (pt a ((36 : Nat) : Int)) = _; rw [h2 36 hk (by decide)]; rfl
  | 37, hk => show aV ω (pt a ((37 : Nat) : Int)) = _; rw [h2 37 hk (by decide)]; rfl
  | 38, hk => show aV ω (pt a ((38 : Nat) : Int)) = _; rw [h2 38 hk (by decide)]; rfl
  | 39, hk => show iV (h a ((39 : Nat) : Int)) = _; rw [h0 39 hk (by decide)]; rfl
  | 40, hk => show iV (h a ((40 : Nat) : Int)) = _; rw [h0 40 hk (by decide)]; rfl
  | 41, hk => show aV ω (pt a ((41 : Nat) : Int)) = _; rw [h2 41 hk (by decide)]; rfl
  | 42, hk => show iV (h a ((42 : Nat) : Int)) = _; rw [h0 42 hk (by decide)]; rfl
  | 43, hk => show lV (h a ((43 : Nat) : Int)) = _; rw [h0 43 hk (by decide)]; rfl
  | 44, hk => show iV (h a ((44 : Nat) : Int)) = _; rw [h0 44 hk (by decide)]; rfl
  | 45, hk => show iV (h a ((45 : Nat) : Int)) = _; rw [h0 45 hk (by decide)]; rfl
  | 46, hk => show iV (h a ((46 : Nat) : Int)) = _; rw [h0 46 hk (by decide)]; rfl
  | 47, hk => show iV (h a ((47 : Nat) : Int)) = _; rw [h0 47 hk (by decide)]; rfl
  | 48, hk => show iV (h a ((48 : Nat) : Int)) = _; rw [h0 48 hk (by decide)]; rfl
  | 49, hk => show aV ω (pt a ((49 : Nat) : Int)) = _; rw [h2 49 hk (by decide)]; rfl
  | 50, hk => show iV (h a ((50 : Nat) : Int)) = _; rw [h0 50 hk (by decide)]; rfl
  | 51, hk => show aV ω (pt a ((51 : Nat) : Int)) = _; rw [h2 51 hk (by decide)]; rfl
  | 52, hk => show aV ω (pt a ((52 : Nat) : Int)) = _; rw [h2 52 hk (by decide)]; rfl
  | 53, hk => show iV (h a ((53 : Nat) : Int)) = _; rw [h0 53 hk (by decide)]; rfl
  | n + 54, hk => exact absurd hk (by omega)
abbrev hS0 : Hp := up (up (up hC4 2000 5 2001) 2000 34 (-1)) 2000 35 3
theorem hI9_3 : ∀ k : Nat, k < 20 → fkd 9 k = 3 → hI 20 k = -1 := by decide +kernel
theorem hI9_0 : ∀ k : Nat, k < 20 → fkd 9 k < 2 → hI 20 k = 0 := by decide +kernel
theorem hC10_3 : ∀ k : Nat, k < 54 → fkd 10 k = 3 → hC4 2000 k = -1 := by decide +kernel
theorem hC10_0 : ∀ k : Nat, k < 54 → fkd 10 k < 2 → hC4 2000 k = 0 := by decide +kernel
theorem pN10_2 : ∀ k : Nat, k < 54 → fkd 10 k = 2 → 305 ≤ tmA 2000 k := by decide +kernel
theorem sN2000 (i : Nat) (hi : 308 < i) : (sN i 2000).1 = 10 := by rw [sN_at 2000 308 (10, 0) (by decide +kernel) i hi]
set_option maxHeartbeats 4000000 in
set_option maxRecDepth 100000 in
theorem L_start {I : Hp → Prop} {ω : Wd} (hω : OKw ω) (hL : ω.2.2.2.2.2.2.1 ≤ 3072) (hS : S_all39 I) (hI0 : I hS0) : Ev ω N_La_law 1390 (PQL ω) 601024 7293034 0 0 (sN 0) (pN 0) (zz ω 0) hI 0 [some (.ref ω.2.2.2.2.2.1), none, none, none, none, none, none] [] := by
  refine ev_new (pc := 0) (n := 0) (cl := 0) (sl := 0) (c9 := 9) (N9 := 20) (a := 20) hω (by decide) (by decide +kernel) dL_law_0 kn_La_8 SH20 (by decide) (fresh_9 (fun _ _ _ => rfl) hI9_3 hI9_0) (by decide) (by decide) ?_
  refine ev_dup (pc := 3) dL_law_3 (cat_aV _ _) ?_
  refine ev_callI (pc := 4) (cl := 1) (sl := 20) (N := N_Cc_init) (As := []) (rest := [aV ω 20]) (n := 0) (c9 := 9) (a := 20) (d' := 3) (mc' := 307) (ms' := 6791) (K_Cc hω) dL_law_4 mt_Cc_init rfl st_Cc_init kl_La_15 (by decide) (sC (by decide)) (by decide) rfl (Nat.le_trans (sm_1 (cat_aV _ _) sm_z) (by decide)) (by decide) (by decide) ?_
  rintro v sh' pt' z' h' ⟨rfl, rfl, rfl, rfl, rfl⟩
  refine ev_astore_n (pc := 7) (i := 1) (isA_aV _ _) dL_law_7 rfl (lnl_v (v := .ref ω.2.2.2.2.2.1) rfl rfl) (by decide) ?_
  refine ev_new (pc := 8) (n := 308) (cl := 308) (sl := 6811) (c9 := 10) (N9 := 54) (a := 2000) hω (by decide) (by decide +kernel) dL_law_8 kn_La_16 SH2000 (by decide) (fresh_10 (fun k hk h2 => pN_no 305 (by decide) 2000 k (pN10_2 k hk h2)) hC10_3 hC10_0) (by decide) (by decide) ?_
  refine ev_dup (pc := 11) dL_law_11 (cat_aV _ _) ?_
  refine ev_callI (pc := 12) (cl := 309) (sl := 6865) (N := N_Md_init) (As := []) (rest := [aV ω 2000]) (n := 0) (c9 := 10) (a := 2000) (d' := 1) (mc' := 21) (ms' := 28473) (K_Md hω (fun b hb j => zC4 (by omega) (by omega) (by omega) j)) dL_law_12 mt_Md_init rfl st_Md_init kl_La_18 (by decide) (sN2000 _ (by decide)) (by decide) rfl (Nat.le_trans (sm_1 (cat_aV _ _) sm_z) (by decide)) (by decide) (by decide) ?_
  rintro v sh' pt' z' h' ⟨rfl, rfl, rfl, rfl, rfl⟩
  refine ev_astore_n (pc := 15) (i := 2) (isA_aV _ _) dL_law_15 rfl (lnl_v (v := aV ω 20) (cat_aV _ _) rfl) (by decide) ?_
  refine ev_iconst (pc := 16) dL_law_16 ?_
  refine ev_newarr (pc := 17) (n := 330) (cl := 330) (sl := 35338) (a := 80) (atype := .long) hω (by decide) (by decide +kernel) dL_law_17 wa_long (by rw [SH80]; rfl) (by rw [SH80]; decide) (by rw [SH80]; rfl) (by rw [SH80]; decide) (by decide) (by rw [SH80]; decide) (fun j => ?_) ?_
  · rw [up_ne (by decide), up_ne (by decide), up_ne (by decide)]
    exact zC4 (by decide) (by decide) (by decide) j
  refine ev_astore_n (pc := 19) (i := 3) (isA_aV _ _) dL_law_19 rfl (lnl_v (v := aV ω 2000) (cat_aV _ _) rfl) (by decide) ?_
  refine ev_iconst (pc := 20) dL_law_20 ?_
  refine ev_istore (pc := 21) (i := 4) dL_law_21 (lnl_v (v := aV ω 80) (cat_aV _ _) rfl) (by decide) ?_
  refine ev_full ?_
  have e9 : 35338 + (SH 80).2 = 35339 := by rw [SH80]; rfl
  rw [e9]
  exact L_loop hL hS 513 0 hS0 331 35339 (by decide) hI0 (by decide) (by decide)
end LawStart
