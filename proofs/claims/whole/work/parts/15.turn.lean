section LawTurn
/-! the skeleton's words of the claim (kit/laws/SKELETON.whole), then the law's loop -/
def R_law : String := "CompanyCourtLaw"
def lw_P (b : Addr) (xs : List Int32) (args : Array Value) (s : State) : Prop := args = #[.ref b] ∧ s.IntsAt b xs ∧ xs.length ≤ 3072 ∧ (Jvm.Cond.and given_1 narrow_1).before args s = true
def lw_Q (_ : Array Value) (s : State) (o : Outcome) (t : State) : Prop := o = .returned (some (.int 1)) ∧ Framed s o t [] 601024 7293034
def lw_Z (below : List Frame) (a : Array Value) (s : State) : State → Prop := fun t => ∃ o, t.status = .running ∧ Ended t below o ∧ lw_Q a s o t
/-- the law's own end, with 1 on the stack, nothing written that was there before, its room as the claim has it -/
theorem lw_ret {p : Program} {l : Launch} {e : Env} {s : State} {m : MethodId} {below : List Frame} {meth : Method} {c : Code} {b : Nat} (hx : p.tables.exec = Jvm.exec) (hb : c.code = code) (hr : meth.sig.returnType = ret) (hlocks : meth.locks = false) {pc : Nat} {H : Heap} {ls : Array Slot} (hdg : decode code pc = .ok (.ireturn, 1)) : W p l e room_1 s m #[Value.ref b] below meth c H [] 601024 7293034 (lw_Z below #[Value.ref b] s) (F0 m pc ls [.int 1]) := by
  intro T hT X
  obtain ⟨fs, hret, hrun, hended, hW, hframe⟩ := X.leave (v := some (.int 1)) (hlocks := hlocks) (fun h => by rw [hr] at h; cases h)
  have hmeth' : T.vm.method? m = some meth := X.method'
  refine ⟨T.setFrames fs, ?_, .returned (some (.int 1)), hrun, hended, rfl, ⟨_, rfl⟩, hW, hframe⟩
  jvm_step X.here [X.here.top, hx, hb, hdg, hmeth', hr, ret, narrow_b1]
  (try refine ⟨rfl, ?_⟩); (try refine ⟨rfl, ?_⟩)
  first | (intro acts; rw [hret _ acts rfl rfl rfl]) | rw [hret _ _ rfl rfl rfl]
  exact Steps.refl _
/-- what holds at the law's entry: the machine, the code, the tables' words (any of lw_tbl by 'hts w (by decide +kernel)'), the script of L ints xs at the cell b, what the Statement gives of the start (any of its parts by flat_of_before) -/
def lw_At (p : Program) (s : State) (m : MethodId) (meth : Method) (c : Code) (b L : Nat) (xs : Nat → Int32) : Prop :=
  p.tables.exec = Jvm.exec ∧ c.code = code ∧ meth.sig.returnType = ret ∧ c.maxLocals = 7 ∧ s.vm.findClass R_law = some m.cls ∧ (∀ w ∈ lw_tbl, w.before #[Value.ref b] s = true) ∧ va_X b L xs s s.heap ∧ b < s.heap.size ∧ meth.locks = false ∧ (Jvm.Cond.and given_1 narrow_1).before #[Value.ref b] s = true
/-- the law's own end, with 1 on the stack, nothing written that was there before, its room as the claim has it -/
theorem lw_retR {p : Program} {l : Launch} {e : Env} {R : Room} {s : State} {m : MethodId} {below : List Frame} {meth : Method} {c : Code} {b : Nat} (hx : p.tables.exec = Jvm.exec) (hb : c.code = code) (hr : meth.sig.returnType = ret) (hlocks : meth.locks = false) {pc : Nat} {H : Heap} {ls : Array Slot} (hdg : decode code pc = .ok (.ireturn, 1)) : W p l e R s m #[Value.ref b] below meth c H [] 601024 7293034 (lw_Z below #[Value.ref b] s) (F0 m pc ls [.int 1]) := by
  intro T hT X
  obtain ⟨fs, hret, hrun, hended, hW, hframe⟩ := X.leave (v := some (.int 1)) (hlocks := hlocks) (fun h => by rw [hr] at h; cases h)
  have hmeth' : T.vm.method? m = some meth := X.method'
  refine ⟨T.setFrames fs, ?_, .returned (some (.int 1)), hrun, hended, rfl, ⟨_, rfl⟩, hW, hframe⟩
  jvm_step X.here [X.here.top, hx, hb, hdg, hmeth', hr, ret, narrow_b1]
  (try refine ⟨rfl, ?_⟩); (try refine ⟨rfl, ?_⟩)
  first | (intro acts; rw [hret _ acts rfl rfl rfl]) | rw [hret _ _ rfl rfl rfl]
  exact Steps.refl _

def PQL (ω : Wd) : PQt := fun below args s t => (s.heap.size = ω.2.2.2.1 ∧ args = #[.ref ω.2.2.2.2.2.1] ∧ Nd s) → lw_Z below args s t
theorem w_Lp : ∀ w ∈ [Cond.codeWith yL_person cL_person 5 (some .int) [(0, 10, 13, 13)], Cond.initialized RL, Cond.static yL_person, Cond.methodLink RL 38 yL_person], w ∈ lw_tbl := by decide +kernel
theorem w_Lpg : ([Cond.codeWith yL_person cL_person 5 (some .int) [(0, 10, 13, 13)], Cond.initialized RL, Cond.static yL_person, Cond.methodLink RL 38 yL_person]).all goodWord = true := by decide +kernel
theorem w_Lps {w : Cond} (h : w ∈ [Cond.codeWith yL_person cL_person 5 (some .int) [(0, 10, 13, 13)], Cond.initialized RL, Cond.static yL_person, Cond.methodLink RL 38 yL_person]) : w ∈ WS := WS_of (w_Lp w h) (List.all_eq_true.mp w_Lpg w h)
theorem c_Lp : (parseMethodDescriptor yL_person.desc).map (fun d => d.parameters.length) = some 4 := by decide +kernel
set_option maxHeartbeats 1000000 in
theorem ev_callW {ω : Wd} {cl sl pc : Nat} {h h1 : Hp} {lv : List (Option Value)} {As rest : List Value} {r : Int} (hC : CtW ω N_La_person 8 As h 1 6 (QB (some (iV r)) (zB ω) h1)) (hd : decode cL_law pc = .ok (.invokestatic 38, 3)) (hn : As.length = 4) (hw : (rest.map fun v => v.category).sum ≤ 8) (hcl : cl + 1 ≤ 601024) (hsl : sl + 6 ≤ 7293034)
    (k : Ev ω N_La_law 1390 (PQL ω) 601024 7293034 (cl + 1) (sl + 6) SH PT (zB ω) h1 (pc + 3) lv (iV r :: rest)) : Ev ω N_La_law 1390 (PQL ω) 601024 7293034 cl sl SH PT (zB ω) h pc lv (As.reverse ++ rest) := by
  intro p l e R s m args below meth c H locs ls Y
  refine (Classical.em (Nd s)).elim (fun hN => ?_) (fun hN => fun T hT X => ⟨_, Steps.refl _, fun g => absurd g.2.2 hN⟩)
  obtain ⟨C, rm9, hV, hH, hl, hS⟩ := id Y
  have hts : ∀ w ∈ WS, w.before args s = true := C.2.2.2.2.2.1
  have hp : PreS s H (PcN ω As h) As := ⟨PcN.blind, fun U hU hW => ⟨⟨rfl, hV.warm hW, by rw [hU]; exact hH.moved hW.alike⟩, hN.moved hW.alike⟩⟩
  have hR : 8 + 1 ≤ R.frames ∧ 8 + (5 + 11) + 60 * 8 ≤ R.locals := by omega
  have hcw : Cond.codeWith yL_person cL_person 5 (some .int) [(0, 10, 13, 13)] ∈ WS := w_Lps List.mem_cons_self
  have hpay : ∀ w ∈ (Cond.codeWith yL_person cL_person 5 (some .int) [(0, 10, 13, 13)] :: WS), ∀ (a' : Array Value) (U : State), s.WarmedH U.vm → w.before a' U = true := by
    intro w hw a' U hW
    have hw' : w ∈ WS := by
      rcases List.mem_cons.mp hw with rfl | g
      · exact hcw
      · exact g
    exact word_at hW (WS_good hw') (hts w hw')
  have hCl := hC l rm9.2.2.2.2
  rw [tbl_La_person] at hCl
  have hcnt : ∀ sig, parseMethodDescriptor yL_person.desc = some sig → 4 = sig.parameters.length := by
    intro sig hs
    have h2 := c_Lp
    rw [hs] at h2
    exact (Option.some.inj h2).symm
  have K := vx_runSW (e := e) (meth := meth) (below := below) (locs := locs) (cells := cl) (slots := sl) (H := H) (g := F0 m pc ls (As.reverse ++ rest)) (rest := rest) (n := 4) (index := 38) (own := RL) ⟨C.1, C.2.1, C.2.2.2.1, C.2.2.2.2.1, hts⟩ hCl ⟨⟨rfl, rfl, hR.1, hR.2, hpay, List.mem_cons_self⟩, hts _ hcw, hts _ (w_Lps (List.mem_cons_of_mem _ List.mem_cons_self)), ⟨by decide, by decide⟩, hcnt, hts _ (w_Lps (List.mem_cons_of_mem _ (List.mem_cons_of_mem _ (List.mem_cons_of_mem _ List.mem_cons_self)))), hts _ (w_Lps (List.mem_cons_of_mem _ (List.mem_cons_of_mem _ List.mem_cons_self)))⟩ hp rfl hn hl.1 rfl (lv_room hw) hd ⟨by omega, by omega⟩
  intro T hT X
  obtain ⟨v, st₀, t, T', L, h0, X', hL, e1, e2, ⟨⟨v9, sh', pt', z', h', hv, hq, hb⟩, hz, hk⟩, stp⟩ := K T hT X
  obtain rfl : v = v9 := Outcome.returned.inj hv
  obtain ⟨rfl, rfl, rfl, rfl, rfl⟩ := hq
  rw [h0] at hz hk
  have hal : s.vm.Alike t.vm := by rw [← e2]; exact X'.warmed.alike
  have hb9 : HF ω SH PT (zB ω) h' s T'.heap := by rw [e1]; exact hb.moved hal.symm
  obtain ⟨t2, a1, b1⟩ := k p l e R s m args below meth c T'.heap (locs ++ L) ls ⟨C, rm9, hV, hb9, hl, ⟨Nat.le_trans hS.1 (by rw [e1]; exact hz), fun q h1 h2 => by rw [e1, hk q (Nat.lt_of_lt_of_le h1 hS.1) h2]; exact hS.2.1 q h1 h2, fun q hq => by
      rcases List.mem_append.mp hq with g | g
      · exact hS.2.2 q g
      · exact hL q g⟩⟩ T' rfl X'
  exact ⟨t2, stp t2 a1, b1⟩
theorem w32_lcm (x : Int) : w32 (lcm x x) = 0 := by
  unfold lcm
  rw [if_neg (Int.lt_irrefl _), if_pos rfl]
  rfl
set_option maxHeartbeats 1000000 in
theorem L_person2 {ω : Wd} {cl sl : Nat} {i r0 b t : Int} {h1 h2 h3 : Hp} (hB : hBt ω i) (hcl : cl ≤ 601024) (hsl : sl ≤ 7293034) (hM : Md_person h1 2000 (sx ω (i + 1)) (sx ω (i + 2)) = some (b, h2)) (hT : Md_thrown h2 2000 = some (t, h3)) (ht : w32 t = w32 r0) (hq : w32 r0 = 0 → h3 80 0 = w32 b) (k : EvL ω (PQL ω) cl sl h3 1530 i []) : EvL ω (PQL ω) cl sl h1 377 i [iV r0] := by
  refine ev_istore (pc := 377) (i := 5) dL_law_377 (lnl_v (v := iV i) rfl rfl) (by decide) ?_
  refine ev_aload_n (pc := 379) (i := 2) dL_law_379 rfl rfl ?_
  refine evL_arg (pc := 380) (n := 1) rfl rfl hB (by decide) dL_law_380 dL_law_381 dL_law_383 dL_law_384 dL_law_385 ?_
  refine evL_arg (pc := 386) (n := 2) rfl rfl hB (by decide) dL_law_386 dL_law_387 dL_law_389 dL_law_390 dL_law_391 ?_
  refine evC_I (pc := 392) (As := [iV (sx ω (i + 1)), iV (sx ω (i + 2))]) (rest := []) (M_Md_person hM) dL_law_392 mt_Md_person st_Md_person ml_La_43 SH2000 (by decide) ⟨_, rfl, rfl⟩ (Nat.le_of_ble_eq_true rfl) rfl rfl (Nat.le_trans sm_z (by decide)) hcl hsl ?_
  refine ev_istore (pc := 395) (i := 6) dL_law_395 (lnl_v (v := iV r0) rfl rfl) (by decide) ?_
  refine ev_aload_n (pc := 397) (i := 2) dL_law_397 rfl rfl ?_
  refine evC_I (pc := 398) (As := []) (rest := []) (M_Md_thrown hT) dL_law_398 mt_Md_thrown st_Md_thrown ml_La_44 SH2000 (by decide) ⟨_, rfl, rfl⟩ (Nat.le_of_ble_eq_true rfl) rfl rfl (Nat.le_trans sm_z (by decide)) hcl hsl ?_
  refine ev_iload (pc := 401) (i := 5) dL_law_401 rfl ?_
  refine evP_icmp_eq (pc := 403) (tgt := 408) dL_law_403 rfl (fun _ => ?_) (fun g => absurd ht g)
  refine ev_iload (pc := 408) (i := 5) dL_law_408 rfl ?_
  have fin : Ev ω N_La_law 1390 (PQL ω) 601024 7293034 cl sl SH PT (zB ω) h3 425 [some (.ref ω.2.2.2.2.2.1), some (aV ω 20), some (aV ω 2000), some (aV ω 80), some (iV i), some (iV r0), some (iV b)] [] := ev_goto (pc := 425) (tgt := 1530) dL_law_425 rfl (ev_le (lw := lvL ω i) (lvle_s (lvle_s (lvle_s (lvle_s (lvle_s (lvle_n (lvle_n lvle_z))))))) k)
  refine evP_if_ne (pc := 410) (tgt := 425) dL_law_410 rfl (fun g => ?_) (fun _ => fin)
  refine ev_aload_n (pc := 413) (i := 3) dL_law_413 rfl rfl ?_
  refine ev_iconst (pc := 414) dL_law_414 ?_
  refine ev_lald (pc := 415) dL_law_415 (by rw [SH80]) (by decide) (by rw [SH80]; decide) ?_
  have e : rd h3 80 (w32 0) = w32 b := by rw [w32_0, rd_ge (by decide)]; exact hq g
  rw [e]
  refine ev_iload (pc := 416) (i := 6) dL_law_416 rfl ?_
  refine ev_i2l (pc := 418) dL_law_418 ?_
  refine ev_lcmp (pc := 419) dL_law_419 ?_
  exact evP_if_eq (pc := 420) (tgt := 425) dL_law_420 rfl (fun _ => fin) (fun g => absurd (w32_lcm _) g)
set_option maxHeartbeats 1000000 in
theorem L_person {I : Hp → Prop} {ω : Wd} {cl sl : Nat} {h : Hp} {i : Int} (hB : hBt ω i) (hcl : cl + 1 ≤ 601024) (hsl : sl + 6 ≤ 7293034) (hS : S_person I) (hI : I h) (k : ∀ h2 : Hp, I h2 → EvL ω (PQL ω) (cl + 1) (sl + 6) h2 1530 i []) : EvL ω (PQL ω) cl sl h 360 i [] := by
  refine ev_aload_n (pc := 360) (i := 1) dL_law_360 rfl rfl ?_
  refine evL_arg (pc := 361) (n := 1) rfl rfl hB (by decide) dL_law_361 dL_law_362 dL_law_364 dL_law_365 dL_law_366 ?_
  refine evL_arg (pc := 367) (n := 2) rfl rfl hB (by decide) dL_law_367 dL_law_368 dL_law_370 dL_law_371 dL_law_372 ?_
  refine ev_aload_n (pc := 373) (i := 3) dL_law_373 rfl rfl ?_
  rcases hS h (sx ω (i + 1)) (sx ω (i + 2)) hI (ir_toInt _) (ir_toInt _) with ⟨r, b, h1, h2, t, h3, c1, c2, c3, c4, c5, c6⟩ | ⟨q, b, h2, t, h3, c1, c2, c3, c4, c5, c6⟩
  · refine ev_callW (pc := 374) (As := [aV ω 20, iV (sx ω (i + 1)), iV (sx ω (i + 2)), aV ω 80]) (rest := []) (Y_La_person c1) dL_law_374 rfl (Nat.le_trans sm_z (by decide)) hcl hsl ?_
    exact L_person2 hB hcl hsl c2 c3 (by rw [c4]; rfl) (fun _ => c5) (k h3 c6)
  · have hP9 : ∃ q' : Int, Cc_isPerson h 20 (sx ω (i + 1)) = some (q', h) ∧ w32 q' = w32 q := ⟨q, c1, rfl⟩
    refine ev_callW (pc := 374) (As := [aV ω 20, iV (sx ω (i + 1)), iV (sx ω (i + 2)), aV ω 80]) (rest := []) (Z_La_person c1 c2) dL_law_374 rfl (Nat.le_trans sm_z (by decide)) hcl hsl ?_
    exact L_person2 hB hcl hsl c3 c4 (by rw [c5]; rfl) (fun g => absurd g (by decide)) (k h3 c6)
set_option maxHeartbeats 2000000 in
theorem L_turn {I : Hp → Prop} {ω : Wd} {cl sl : Nat} {h : Hp} {i : Int} (hB : hBt ω i) (hcl : cl + 1 ≤ 601024) (hsl : sl + 6 ≤ 7293034) (hS : S_all39 I) (hI : I h) (k : ∀ (h2 : Hp) (cl' sl' : Nat), cl' ≤ cl + 1 → sl' ≤ sl + 6 → I h2 → EvL ω (PQL ω) cl' sl' h2 1530 i []) : EvL ω (PQL ω) cl sl h 33 i [] := by
  have hw : w32 i = i := w32_id (by omega) (by omega)
  have k0 : ∀ h2 : Hp, I h2 → EvL ω (PQL ω) cl sl h2 1530 i [] := fun h2 g => k h2 cl sl (Nat.le_succ _) (Nat.le_add_right _ _) g
  have k1 : ∀ h2 : Hp, I h2 → EvL ω (PQL ω) (cl + 1) (sl + 6) h2 1530 i [] := fun h2 g => k h2 _ _ (Nat.le_refl _) (Nat.le_refl _) g
  have hc : cl ≤ 601024 := by omega
  have hs : sl ≤ 7293034 := by omega
  obtain ⟨s0, s1, s2, s3, s4, s5, s6, s7, s8, s9, s10, s11, s12, s13, s14, s15, s16, s17, s18, s19, s20, s21, s22, s23, s24, s25, s26, s27, s28, s29, s30, s31, s32, s33, s34, s35, s36, s37, s38⟩ := hS
  refine ev_aload_nG (pc := 33) (i := 0) (isA_ref _) dL_law_33 rfl rfl ?_
  refine ev_iload (pc := 34) (i := 4) dL_law_34 rfl ?_
  refine ev_sld (pc := 36) dL_law_36 (by omega) (by omega) ?_
  refine ev_bipush (pc := 37) dL_law_37 (by decide) ?_
  refine ev_iand (pc := 39) dL_law_39 ?_
  by_cases g0 : w32 (iand (sx ω i) 63) = 0
  · exact ev_tswIn (tgt := 212) dL_law_40 g0 (by decide) (by decide) rfl rfl (L_feed hB hc hs s0 hI k0)
  by_cases g1 : w32 (iand (sx ω i) 63) = 1
  · exact ev_tswIn (tgt := 285) dL_law_40 g1 (by decide) (by decide) rfl rfl (L_end hB hc hs s1 hI k0)
  by_cases g2 : w32 (iand (sx ω i) 63) = 2
  · exact ev_tswIn (tgt := 310) dL_law_40 g2 (by decide) (by decide) rfl rfl (L_fault hB hc hs s2 hI k0)
  by_cases g3 : w32 (iand (sx ω i) 63) = 3
  · exact ev_tswIn (tgt := 335) dL_law_40 g3 (by decide) (by decide) rfl rfl (L_text hB hc hs s3 hI k0)
  by_cases g4 : w32 (iand (sx ω i) 63) = 4
  · exact ev_tswIn (tgt := 360) dL_law_40 g4 (by decide) (by decide) rfl rfl (L_person hB hcl hsl s4 hI k1)
  by_cases g5 : w32 (iand (sx ω i) 63) = 5
  · exact ev_tswIn (tgt := 428) dL_law_40 g5 (by decide) (by decide) rfl rfl (L_wrong hB hc hs s5 hI k0)
  by_cases g6 : w32 (iand (sx ω i) 63) = 6
  · exact ev_tswIn (tgt := 465) dL_law_40 g6 (by decide) (by decide) rfl rfl (L_law hB hc hs s6 hI k0)
  by_cases g7 : w32 (iand (sx ω i) 63) = 7
  · exact ev_tswIn (tgt := 490) dL_law_40 g7 (by decide) (by decide) rfl rfl (L_sin hB hc hs s7 hI k0)
  by_cases g8 : w32 (iand (sx ω i) 63) = 8
  · exact ev_tswIn (tgt := 515) dL_law_40 g8 (by decide) (by decide) rfl rfl (L_sentence hB hc hs s8 hI k0)
  by_cases g9 : w32 (iand (sx ω i) 63) = 9
  · exact ev_tswIn (tgt := 540) dL_law_40 g9 (by decide) (by decide) rfl rfl (L_evening hB hc hs s9 hI k0)
  by_cases g10 : w32 (iand (sx ω i) 63) = 10
  · exact ev_tswIn (tgt := 553) dL_law_40 g10 (by decide) (by decide) rfl rfl (L_appeal hB hc hs s10 hI k0)
  by_cases g11 : w32 (iand (sx ω i) 63) = 11
  · exact ev_tswIn (tgt := 590) dL_law_40 g11 (by decide) (by decide) rfl rfl (L_pardon hB hc hs s11 hI k0)
  by_cases g12 : w32 (iand (sx ω i) 63) = 12
  · exact ev_tswIn (tgt := 627) dL_law_40 g12 (by decide) (by decide) rfl rfl (L_lunch hB hc hs s12 hI k0)
  by_cases g13 : w32 (iand (sx ω i) 63) = 13
  · exact ev_tswIn (tgt := 664) dL_law_40 g13 (by decide) (by decide) rfl rfl (L_teach hB hc hs s13 hI k0)
  by_cases g14 : w32 (iand (sx ω i) 63) = 14
  · exact ev_tswIn (tgt := 689) dL_law_40 g14 (by decide) (by decide) rfl rfl (L_give hB hc hs s14 hI k0)
  by_cases g15 : w32 (iand (sx ω i) 63) = 15
  · exact ev_tswIn (tgt := 714) dL_law_40 g15 (by decide) (by decide) rfl rfl (L_years hB hc hs s15 hI k0)
  by_cases g16 : w32 (iand (sx ω i) 63) = 16
  · exact ev_tswIn (tgt := 783) dL_law_40 g16 (by decide) (by decide) rfl rfl (L_undo hB hc hs s16 hI k0)
  by_cases g17 : w32 (iand (sx ω i) 63) = 17
  · exact ev_tswIn (tgt := 796) dL_law_40 g17 (by decide) (by decide) rfl rfl (L_log hB hc hs s17 hI k0)
  by_cases g18 : w32 (iand (sx ω i) 63) = 18
  · exact ev_tswIn (tgt := 833) dL_law_40 g18 (by decide) (by decide) rfl rfl (L_step hB hc hs s18 hI k0)
  by_cases g19 : w32 (iand (sx ω i) 63) = 19
  · exact ev_tswIn (tgt := 882) dL_law_40 g19 (by decide) (by decide) rfl rfl (L_run hB hc hs s19 hI k0)
  by_cases g20 : w32 (iand (sx ω i) 63) = 20
  · exact ev_tswIn (tgt := 919) dL_law_40 g20 (by decide) (by decide) rfl rfl (L_perform hB hc hs s20 hI k0)
  by_cases g21 : w32 (iand (sx ω i) 63) = 21
  · exact ev_tswIn (tgt := 944) dL_law_40 g21 (by decide) (by decide) rfl rfl (L_owed hB hc hs s21 hI k0)
  by_cases g22 : w32 (iand (sx ω i) 63) = 22
  · exact ev_tswIn (tgt := 981) dL_law_40 g22 (by decide) (by decide) rfl rfl (L_tonight hB hc hs s22 hI k0)
  by_cases g23 : w32 (iand (sx ω i) 63) = 23
  · exact ev_tswIn (tgt := 994) dL_law_40 g23 (by decide) (by decide) rfl rfl (L_served hB hc hs s23 hI k0)
  by_cases g24 : w32 (iand (sx ω i) 63) = 24
  · exact ev_tswIn (tgt := 1007) dL_law_40 g24 (by decide) (by decide) rfl rfl (L_sooner hB hc hs s24 hI k0)
  by_cases g25 : w32 (iand (sx ω i) 63) = 25
  · exact ev_tswIn (tgt := 1020) dL_law_40 g25 (by decide) (by decide) rfl rfl (L_matched hB hc hs s25 hI k0)
  by_cases g26 : w32 (iand (sx ω i) 63) = 26
  · exact ev_tswIn (tgt := 1045) dL_law_40 g26 (by decide) (by decide) rfl rfl (L_firm hB hc hs s26 hI k0)
  by_cases g27 : w32 (iand (sx ω i) 63) = 27
  · exact ev_tswIn (tgt := 1070) dL_law_40 g27 (by decide) (by decide) rfl rfl (L_given hB hc hs s27 hI k0)
  by_cases g28 : w32 (iand (sx ω i) 63) = 28
  · exact ev_tswIn (tgt := 1135) dL_law_40 g28 (by decide) (by decide) rfl rfl (L_graves hB hc hs s28 hI k0)
  by_cases g29 : w32 (iand (sx ω i) 63) = 29
  · exact ev_tswIn (tgt := 1172) dL_law_40 g29 (by decide) (by decide) rfl rfl (L_ask hB hc hs s29 hI k0)
  by_cases g30 : w32 (iand (sx ω i) 63) = 30
  · exact ev_tswIn (tgt := 1197) dL_law_40 g30 (by decide) (by decide) rfl rfl (L_crime hB hc hs s30 hI k0)
  by_cases g31 : w32 (iand (sx ω i) 63) = 31
  · exact ev_tswIn (tgt := 1246) dL_law_40 g31 (by decide) (by decide) rfl rfl (L_game hB hc hs s31 hI k0)
  by_cases g32 : w32 (iand (sx ω i) 63) = 32
  · exact ev_tswIn (tgt := 1319) dL_law_40 g32 (by decide) (by decide) rfl rfl (L_rests hB hc hs s32 hI k0)
  by_cases g33 : w32 (iand (sx ω i) 63) = 33
  · exact ev_tswIn (tgt := 1368) dL_law_40 g33 (by decide) (by decide) rfl rfl (L_odds hB hc hs s33 hI k0)
  by_cases g34 : w32 (iand (sx ω i) 63) = 34
  · exact ev_tswIn (tgt := 1417) dL_law_40 g34 (by decide) (by decide) rfl rfl (L_all hB hc hs s34 hI k0)
  by_cases g35 : w32 (iand (sx ω i) 63) = 35
  · exact ev_tswIn (tgt := 1442) dL_law_40 g35 (by decide) (by decide) rfl rfl (L_circle hB hc hs s35 hI k0)
  by_cases g36 : w32 (iand (sx ω i) 63) = 36
  · exact ev_tswIn (tgt := 1479) dL_law_40 g36 (by decide) (by decide) rfl rfl (L_image hB hc hs s36 hI k0)
  by_cases g37 : w32 (iand (sx ω i) 63) = 37
  · exact ev_tswIn (tgt := 1492) dL_law_40 g37 (by decide) (by decide) rfl rfl (L_back hB hc hs s37 hI k0)
  by_cases g38 : w32 (iand (sx ω i) 63) = 38
  · exact ev_tswIn (tgt := 1505) dL_law_40 g38 (by decide) (by decide) rfl rfl (L_count hB hc hs s38 hI k0)
  exact ev_tswOut (tgt := 1530) dL_law_40 (by omega) rfl (k0 h hI)
theorem ev_lawret {ω : Wd} {cl sl : Nat} {h : Hp} {lv : List (Option Value)} (hcl : cl ≤ 601024) (hsl : sl ≤ 7293034) : Ev ω N_La_law 1390 (PQL ω) 601024 7293034 cl sl SH PT (zB ω) h 1537 lv [iV 1] := by
  intro p l e R s m args below meth c H locs ls Y
  obtain ⟨C, rm9, hV, hH, hl, hS⟩ := id Y
  refine (Classical.em (s.heap.size = ω.2.2.2.1 ∧ args = #[.ref ω.2.2.2.2.2.1] ∧ Nd s)).elim (fun hg => ?_) (fun hg => fun T hT X => ⟨_, Steps.refl _, fun g => absurd g hg⟩)
  obtain ⟨hz, ha, -⟩ := hg
  subst ha
  have K : W p l e R s m #[.ref ω.2.2.2.2.2.1] below meth c H [] 601024 7293034 (lw_Z below #[.ref ω.2.2.2.2.2.1] s) (F0 m 1537 ls [.int 1]) := lw_retR C.1 C.2.1 C.2.2.1 C.2.2.2.2.2.2.1 dL_law_1537
  have K2 := va_forget (locs := locs) (fun q hq => by rw [hz]; exact hS.2.2 q hq) (W.widen hcl hsl K)
  intro T hT X
  obtain ⟨t, a, b⟩ := K2 T hT X
  exact ⟨t, a, fun _ => b⟩
set_option maxHeartbeats 1000000 in
theorem L_loop {I : Hp → Prop} {ω : Wd} (hL : ω.2.2.2.2.2.2.1 ≤ 3072) (hS : S_all39 I) : ∀ (n k : Nat) (h : Hp) (cl sl : Nat), k + n = 513 → I h → cl ≤ 331 + k → sl ≤ 35400 + 6 * k → EvL ω (PQL ω) cl sl h 23 (6 * (k : Int)) [] := by
  intro n
  induction n with
  | zero =>
    intro k h cl sl hk hI hcl hsl
    have w1 : w32 ((ω.2.2.2.2.2.2.1 : Int) - 6) = (ω.2.2.2.2.2.2.1 : Int) - 6 := w32_id (by omega) (by omega)
    have w2 : w32 (6 * (k : Int)) = 6 * (k : Int) := w32_id (by omega) (by omega)
    refine ev_iload (pc := 23) (i := 4) dL_law_23 rfl ?_
    refine ev_aload_nG (pc := 25) (i := 0) (isA_ref _) dL_law_25 rfl rfl ?_
    refine ev_slen (pc := 26) dL_law_26 ?_
    refine ev_bipush (pc := 27) dL_law_27 (by decide) ?_
    refine ev_isub (pc := 29) dL_law_29 ?_
    refine evP_icmp_gt (pc := 30) (tgt := 1536) dL_law_30 rfl (fun _ => ?_) (fun g => absurd (by omega) g)
    exact ev_iconst (pc := 1536) dL_law_1536 (ev_lawret (by omega) (by omega))
  | succ n ih =>
    intro k h cl sl hk hI hcl hsl
    have w1 : w32 ((ω.2.2.2.2.2.2.1 : Int) - 6) = (ω.2.2.2.2.2.2.1 : Int) - 6 := w32_id (by omega) (by omega)
    have w2 : w32 (6 * (k : Int)) = 6 * (k : Int) := w32_id (by omega) (by omega)
    refine ev_iload (pc := 23) (i := 4) dL_law_23 rfl ?_
    refine ev_aload_nG (pc := 25) (i := 0) (isA_ref _) dL_law_25 rfl rfl ?_
    refine ev_slen (pc := 26) dL_law_26 ?_
    refine ev_bipush (pc := 27) dL_law_27 (by decide) ?_
    refine ev_isub (pc := 29) dL_law_29 ?_
    refine evP_icmp_gt (pc := 30) (tgt := 1536) dL_law_30 rfl (fun _ => ?_) (fun g => ?_)
    · exact ev_iconst (pc := 1536) dL_law_1536 (ev_lawret (by omega) (by omega))
    rw [w1, w2] at g
    refine L_turn ⟨by omega, by omega, hL⟩ (by omega) (by omega) hS hI (fun h2 cl' sl' g1 g2 hI2 => ?_)
    refine ev_iinc (pc := 1530) (i := 4) dL_law_1530 rfl (lnl_v (v := aV ω 80) (cat_aV _ _) rfl) (by decide) ?_
    refine ev_goto (pc := 1533) (tgt := 23) dL_law_1533 rfl ?_
    have K := ih (k + 1) h2 cl' sl' (by omega) hI2 (by omega) (by omega)
    have e : 6 * ((k + 1 : Nat) : Int) = 6 * (k : Int) + 6 := by omega
    rw [e] at K
    exact K
end LawTurn
