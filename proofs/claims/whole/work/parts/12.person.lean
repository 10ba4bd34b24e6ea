section Person
/-! PERSON: the class's method throws or answers; the law's own method catches. -/
def tyNSE : String := "java/util/NoSuchElementException"
def rnNSE : List String := ["java/lang/Exception"]
abbrev ynNSE : String := "java/lang/RuntimeException"
/-- words that the tables decide, but that no method's own list carries -/
def dclW : List Cond := [.declares (Bundle.initS ynNSE), .declares (Bundle.initS "java/lang/Exception"), .declares (Bundle.initS Bundle.tN)]
def Nd (U : State) : Prop := ∀ w ∈ dclW, va_Nw w U
theorem declares_nw {x : MethodName} {s U : State} (hv : s.vm.Alike U.vm) (h : va_Nw (.declares x) s) : va_Nw (.declares x) U :=
  va_tabs rfl (rfl : (s.setVm U.vm).vm = U.vm) (by rw [Cond.declares_setVm hv]; exact h)
theorem Nd.moved {s U : State} (hv : s.vm.Alike U.vm) (h : Nd s) : Nd U := by
  intro w hw
  have g := h w hw
  simp only [dclW, List.mem_cons, List.not_mem_nil, or_false] at hw
  rcases hw with rfl | rfl | rfl <;> exact declares_nw hv g
def N_La_person : Mt := (yL_person, cL_person, 5, some .int)
def QF : Qt := fun _ _ _ _ _ => False
def XCp (ω : Wd) (h : Hp) : String → State → State → Prop := fun E st t => E = tyNSE ∧ HF ω SH PT (zB ω) h t t.heap ∧ va_F (fr ω) st t
def PQx (ω : Wd) (h : Hp) : PQt := fun below args s t => (SZ ω s s.heap ∧ Nd s) → vx_MQ below (QcOf ω QF) (XCp ω h) args s 1 6 (fr ω) t
theorem HF_grown {ω : Wd} {sh : Shp} {pt : Ptr} {z : Nat → Prop} {h : Hp} {U : State} {H H' : Heap} (k : HF ω sh pt z h U H) (hq : ∀ q : Nat, q < H.size → H'[q]? = H[q]?) (hz : z H'.size) : HF ω sh pt z h U H' := by
  obtain ⟨k1, k2, k3, k4, k5, k6⟩ := k
  refine ⟨fun a ha => ?_, k2, k3, k4, hz, k6.kept (fun q h1 _ => hq q h1)⟩
  obtain ⟨cell, c1, c2⟩ := k1 a ha
  exact ⟨cell, by rw [hq _ (Array.getElem?_eq_some_iff.mp c1).1]; exact c1, c2⟩
theorem nse_good : ∀ w ∈ n13At RX9 139 tyNSE ynNSE rnNSE, goodWord w = true ∨ w = .castable tyNSE tyNSE ∨ w ∈ dclW := by decide +kernel
theorem nse_in : ∀ w ∈ (n13At RX9 139 tyNSE ynNSE rnNSE).filter goodWord, w ∈ lw_tbl := by decide +kernel
theorem nse_ot : ∀ w ∈ Cond.classLink RX9 135 tyNSE :: Cond.initialized tyNSE :: n13At RX9 139 tyNSE ynNSE rnNSE, vx_ot w = true := by decide +kernel
theorem dcl_ot : ∀ w ∈ dclW, w.onTables = true := by decide +kernel
theorem nse_w : ∀ w ∈ [Cond.classLink RX9 135 tyNSE, Cond.initialized tyNSE, Cond.classLink RL 13 tyNSE, Cond.methodLink RL 7 yX9_person], w ∈ lw_tbl := by decide +kernel
theorem nse_wg : ([Cond.classLink RX9 135 tyNSE, Cond.initialized tyNSE, Cond.classLink RL 13 tyNSE, Cond.methodLink RL 7 yX9_person]).all goodWord = true := by decide +kernel
theorem nse_ws {w : Cond} (h : w ∈ [Cond.classLink RX9 135 tyNSE, Cond.initialized tyNSE, Cond.classLink RL 13 tyNSE, Cond.methodLink RL 7 yX9_person]) : w ∈ WS := WS_of (nse_w w h) (List.all_eq_true.mp nse_wg w h)
theorem tbl_Cc_person : tblM N_Cc_person = [] := by decide +kernel
theorem tbl_La_person : tblM N_La_person = [(0, 10, 13, 13)] := by decide +kernel
set_option maxHeartbeats 1000000 in
theorem ev_thrown {ω : Wd} {h : Hp} {d : Nat} {lv : List (Option Value)} (hd : 6 ≤ d) : Ev ω N_Cc_person d (PQx ω h) 1 6 0 0 SH PT (zB ω) h 17 lv [] := by
  intro p l e R s m args below meth c H locs ls Y
  obtain ⟨C, rm9, hV, hH, hl, hS⟩ := id Y
  by_cases hz : SZ ω s s.heap ∧ Nd s
  · have hts : ∀ w ∈ WS, w.before args s = true := C.2.2.2.2.2.1
    have hlf : l.stackTraces = false := by unfold Launch.stackTraces; rw [rm9.2.2.2.2]; decide +kernel
    have hat : ∀ w ∈ n13At RX9 139 tyNSE ynNSE rnNSE, w.before args s = true := fun w hw => by
      rcases nse_good w hw with g | rfl | g
      · exact hts w (WS_of (nse_in w (List.mem_filter.mpr ⟨hw, g⟩)) g)
      · exact va_Nw.use rfl hV.2.2.2.1
      · exact va_Nw.use (dcl_ot w g) (hz.2 w g)
    have htab : c.exceptionTable.toList = [] := by rw [C.2.2.2.2.2.2.2.2, tbl_Cc_person]; rfl
    have K : W p l e R s m args below meth c H locs 0 0 (vx_MQ below (QcOf ω QF) (XCp ω h) args s 1 6 (fr ω)) (F0 m 17 ls []) := by
      refine n13_make (A := fr ω) (cc := cX9_person) (own := RX9) (cls := tyNSE) (text := kTx 0) (Yn := ynNSE) (rn := rnNSE) (ik := 135) (is := 137) (ic := 139) (sa := ω.1 (10 + ((0 : Nat) : Int))) C.1 C.2.1 hlf C.2.2.2.2.1 (by decide +kernel) (by decide +kernel) (by decide +kernel)
        (hts _ (nse_ws (List.mem_cons_self))) (hts _ (nse_ws (List.mem_cons_of_mem _ List.mem_cons_self))) (hV.2.1 0 (by decide)) hat nse_ot hz.1.2.2.2.2.2.2.1 hz.1.2.2.2.2.2.2.2 hS (hl.1.trans C.2.2.2.1.symm)
        dX9_person_17 dX9_person_20 dX9_person_21 dX9_person_23
        (by have : (ynNSE :: rnNSE).length = 2 := rfl
            have := rm9.1; omega) (by have e1 : (ynNSE :: rnNSE).length = 2 := rfl
                                      have e2 : (([] : List Value).map fun v => v.category).sum = 0 := rfl
                                      have := rm9.2.1; omega) (by have := rm9.2.2.1; omega) (by have := rm9.2.2.2.1; omega) ?_
      intro q H1 ce h1 h2 h3 h4 h5
      refine vx_athrow C.1 C.2.1 dX9_person_26 ?_
      exact vx_out (E := tyNSE) (ce := ce) (by rw [htab]; intro x hx; cases hx) C.2.2.2.2.2.2.1 h3 h4 h5
        (fun t ht hal => ⟨rfl, by rw [ht]; exact (HF_grown hH h2 (Nat.le_trans hH.2.2.2.2.1 h1)).moved hal, by rw [ht]; exact Nat.le_trans hS.1 h1, fun x q1 q2 => by rw [ht]; exact (h2 x (Nat.lt_of_lt_of_le q1 hS.1)).trans (hS.2.1 x q1 q2)⟩)
        hS.2.2 (Nat.le_refl _) (Nat.le_refl _)
    intro T hT X
    obtain ⟨t, a, b⟩ := K T hT X
    exact ⟨t, a, fun _ => b⟩
  · exact fun T hT X => ⟨_, Steps.refl _, fun g => absurd g hz⟩
def PcN (ω : Wd) (vs : List Value) (h : Hp) : Array Value → State → Prop := fun a U => PcOf ω vs SH PT (zB ω) h a U ∧ Nd U
theorem PcN.blind {ω : Wd} {vs : List Value} {h : Hp} : FrameBlind (PcN ω vs h) := fun a U g mk q => ⟨PcOf.blind a U g mk q.1, Nd.moved (s := U) (U := U.calling g mk a) (Vm.Alike.refl U.vm) q.2⟩
def CtX (ω : Wd) (h : Hp) (M : Mt) (d : Nat) (vs : List Value) : Prop :=
  ∀ l : Launch, l.flags = flags0 → vx_Met l M.1 (Cond.code M.1 M.2.1 M.2.2.1 M.2.2.2 :: WS) ({ frames := d, cells := 1, slots := 6, locals := 60 * d }) (PcN ω vs h) (QcOf ω QF) (XCp ω h) 1 6 (fr ω)
theorem CtX_of {ω : Wd} {h : Hp} {M : Mt} {d : Nat} {vs : List Value} {lv : List (Option Value)} (hpl : plainName M.1.cls = true) (hlen : (lg_sl vs).length ≤ M.2.2.1) (hlv : lvA 0 lv = lv_args 0 vs) (htb : tblM M = []) (k : Ev ω M d (PQx ω h) 1 6 0 0 SH PT (zB ω) h 0 lv []) : CtX ω h M d vs := by
  intro l hfl
  refine vx_ofW (cc := M.2.1) (maxL := M.2.2.1) (ret := M.2.2.2) hpl rfl ?_
  intro p e s m args below meth c s₁ B hml ht hv
  obtain ⟨⟨rfl, hV, hH⟩, hN⟩ := hv
  have hts := atoms_spec (ws := Cond.code M.1 M.2.1 M.2.2.1 M.2.2.2 :: WS) B.pre
  have htab : c.exceptionTable.toList = tableOf (tblM M) := by
    rw [htb]
    exact List.eq_nil_iff_forall_not_mem.mpr (fun x hx => ht x hx)
  have K : W p l e (headSpec (Cond.code M.1 M.2.1 M.2.2.1 M.2.2.2 :: WS) ({ frames := d, cells := 1, slots := 6, locals := 60 * d })).room s m vs.toArray below meth c s.heap [] 0 0 (PQx ω h below vs.toArray s) (entryFrame m vs.toArray M.2.2.1) := by
    rw [lg_entry_eq]
    exact k p l e _ s m _ below meth c s.heap [] _ ⟨⟨B.exec, B.bytes, B.returns, hml, findClass_of_methodNamed B.named, fun w hw => hts w (List.mem_cons_of_mem _ hw), B.notSynchronized, (name_of_methodNamed B.named B.method).1, htab⟩, ⟨Nat.le_refl _, Nat.le_refl _, Nat.le_refl _, Nat.le_refl _, hfl⟩, hV, hH, (by unfold LV; rw [hlv]; exact lv_entry vs hlen), va_S.rf⟩
  intro T hT X
  obtain ⟨t, a, b⟩ := K T hT X
  exact ⟨t, a, b ⟨hH.2.2.2.2.2, hN⟩⟩
/-! branches with their conditions kept -/
theorem opt_if {c : Prop} [Decidable c] (h : some true = if c then some true else some false) : c := by
  by_cases hc : c
  · exact hc
  · rw [if_neg hc] at h; cases h
theorem opt_if' {c : Prop} [Decidable c] (h : some false = if c then some true else some false) : ¬ c := by
  intro hc
  rw [if_pos hc] at h; cases h
section P
variable {ω : Wd} {M : Mt} {d mc ms cl sl : Nat} {PQ : PQt} {sh : Shp} {pt : Ptr} {z : Nat → Prop} {h : Hp} {pc : Nat} {lv : List (Option Value)} {st : List Value}
theorem evP_if_eq {x : Int} {off : Int} {tgt : Nat} (hd : decode M.2.1 pc = .ok (.ifCond .eq off, 3)) (ht : (pc : Int) + off = (tgt : Int)) (kA : w32 x = 0 → Ev ω M d PQ mc ms cl sl sh pt z h tgt lv st) (kB : ¬ w32 x = 0 → Ev ω M d PQ mc ms cl sl sh pt z h (pc + 3) lv st) : Ev ω M d PQ mc ms cl sl sh pt z h pc lv (iV x :: st) :=
  ev_if_eq (A := some true) (B := some false) hd ht rfl rfl (fun e => kA (opt_if e)) (fun e => kB (opt_if' e))
theorem evP_if_lt {x : Int} {off : Int} {tgt : Nat} (hd : decode M.2.1 pc = .ok (.ifCond .lt off, 3)) (ht : (pc : Int) + off = (tgt : Int)) (kA : w32 x < 0 → Ev ω M d PQ mc ms cl sl sh pt z h tgt lv st) (kB : ¬ w32 x < 0 → Ev ω M d PQ mc ms cl sl sh pt z h (pc + 3) lv st) : Ev ω M d PQ mc ms cl sl sh pt z h pc lv (iV x :: st) :=
  ev_if_lt (A := some true) (B := some false) hd ht rfl rfl (fun e => kA (opt_if e)) (fun e => kB (opt_if' e))
theorem evP_icmp_le {x y : Int} {off : Int} {tgt : Nat} (hd : decode M.2.1 pc = .ok (.if_icmp .le off, 3)) (ht : (pc : Int) + off = (tgt : Int)) (kA : w32 y < w32 x → Ev ω M d PQ mc ms cl sl sh pt z h (pc + 3) lv st) (kB : ¬ w32 y < w32 x → Ev ω M d PQ mc ms cl sl sh pt z h tgt lv st) : Ev ω M d PQ mc ms cl sl sh pt z h pc lv (iV y :: iV x :: st) :=
  ev_icmp_le (A := some true) (B := some false) hd ht rfl rfl (fun e => kA (opt_if e)) (fun e => kB (opt_if' e))
end P
theorem SH20 : (SH 20).1 = 9 := by decide +kernel
theorem SH80 : (SH 80) = (102, 1) := by decide +kernel
set_option maxHeartbeats 1000000 in
theorem X_Cc_person {ω : Wd} {h : Hp} {a1 a2 r : Int} (hP : Cc_isPerson h 20 a1 = some (r, h)) (hT : w32 r = 0 ∨ w32 a2 < 0 ∨ 3 < w32 a2) : CtX ω h N_Cc_person 6 [aV ω 20, iV a1, iV a2] := by
  refine CtX_of (lv := [some (aV ω 20), some (iV a1), some (iV a2)]) (by decide) (Nat.le_trans (sl_1 (cat_aV _ _) (sl_1 (cat_iV _) (sl_1 (cat_iV _) sl_z))) (Nat.le_of_ble_eq_true rfl)) (la_1 (cat_aV _ _) (la_1 (cat_iV _) (la_1 (cat_iV _) la_z))) tbl_Cc_person ?_
  refine ev_aload_n (pc := 0) (i := 0) dX9_person_0 rfl rfl ?_
  refine ev_iload_n (pc := 1) (i := 1) dX9_person_1 rfl rfl ?_
  refine ev_callV (pc := 2) (As := [iV a1]) (rest := []) (M_Cc_isPerson hP) dX9_person_2 mt_Cc_isPerson st_Cc_isPerson ml_Cc_132 (by decide) SH20 ⟨_, rfl, rfl⟩ (Nat.le_of_ble_eq_true rfl) rfl (Nat.le_trans sm_z (by decide)) (Nat.le_of_ble_eq_true rfl) (Nat.le_of_ble_eq_true rfl) (fun v sh' pt' z' h' hq => ?_)
  obtain ⟨rfl, rfl, rfl, rfl, rfl⟩ := hq
  refine evP_if_eq (pc := 5) (tgt := 17) dX9_person_5 rfl (fun _ => ev_thrown (Nat.le_refl _)) (fun h0 => ?_)
  refine ev_iload_n (pc := 8) (i := 2) dX9_person_8 rfl rfl ?_
  refine evP_if_lt (pc := 9) (tgt := 17) dX9_person_9 rfl (fun _ => ev_thrown (Nat.le_refl _)) (fun h1 => ?_)
  refine ev_iload_n (pc := 12) (i := 2) dX9_person_12 rfl rfl ?_
  refine ev_iconst (pc := 13) dX9_person_13 ?_
  refine evP_icmp_le (pc := 14) (tgt := 27) dX9_person_14 rfl (fun _ => ev_thrown (Nat.le_refl _)) (fun h2 => ?_)
  exact absurd hT (fun g => g.elim h0 (fun g => g.elim h1 h2))
/-! the law's own method, which catches -/
def CtW (ω : Wd) (M : Mt) (d : Nat) (vs : List Value) (h : Hp) (mc ms : Nat) (Q : Qt) : Prop :=
  ∀ l : Launch, l.flags = flags0 → Met l M.1 (Cond.codeWith M.1 M.2.1 M.2.2.1 M.2.2.2 (tblM M) :: WS) ({ frames := d, cells := mc, slots := ms, locals := 60 * d }) (PcN ω vs h) (QcOf ω Q) mc ms (fr ω)
def PQn (ω : Wd) (Q : Qt) (mc ms : Nat) : PQt := fun below args s t => Nd s → PQm ω Q mc ms below args s t
theorem ev_n {ω : Wd} {M : Mt} {d mc ms mc0 ms0 cl sl : Nat} {Q : Qt} {sh : Shp} {pt : Ptr} {z : Nat → Prop} {h : Hp} {pc : Nat} {lv : List (Option Value)} {st : List Value} (k : Ev ω M d (PQm ω Q mc ms) mc0 ms0 cl sl sh pt z h pc lv st) : Ev ω M d (PQn ω Q mc ms) mc0 ms0 cl sl sh pt z h pc lv st := fun p l e R s m args below meth c H locs ls Y T hT X => by
  obtain ⟨t, a, b⟩ := k p l e R s m args below meth c H locs ls Y T hT X
  exact ⟨t, a, fun _ => b⟩
theorem CtW_of {ω : Wd} {h : Hp} {M : Mt} {d mc ms : Nat} {vs : List Value} {lv : List (Option Value)} {Q : Qt} (hpl : plainName M.1.cls = true) (hlen : (lg_sl vs).length ≤ M.2.2.1) (hlv : lvA 0 lv = lv_args 0 vs) (k : Ev ω M d (PQn ω Q mc ms) mc ms 0 0 SH PT (zB ω) h 0 lv []) : CtW ω M d vs h mc ms Q := by
  intro l hfl
  refine MetFree.of_bodyS (code := M.2.1) (maxLocals := M.2.2.1) (ret := M.2.2.2) hpl ?_ ?_
  · intro args s m h hn
    obtain ⟨m9, meth, c, hn9, h1, h2, h3, h4, -, h5, h6, -⟩ := Cond.codeWith_spec (atoms_spec (ws := Cond.codeWith M.1 M.2.1 M.2.2.1 M.2.2.2 (tblM M) :: WS) h _ List.mem_cons_self)
    cases hn.symm.trans hn9
    exact ⟨meth, c, h1, h2, h3, h4, h5, h6⟩
  · intro p e s m args below meth c s₁ B hml hv _
    have hh0 : s₁.heap = s.heap := by rw [B.state]; rfl
    obtain ⟨⟨rfl, hV, hH⟩, hN⟩ := hv
    have hts := atoms_spec (ws := Cond.codeWith M.1 M.2.1 M.2.2.1 M.2.2.2 (tblM M) :: WS) B.pre
    have htab : c.exceptionTable.toList = tableOf (tblM M) := vx_table (x := M.1) B (hts _ List.mem_cons_self)
    have K : W p l e (headSpec (Cond.codeWith M.1 M.2.1 M.2.2.1 M.2.2.2 (tblM M) :: WS) ({ frames := d, cells := mc, slots := ms, locals := 60 * d })).room s m vs.toArray below meth c s.heap [] 0 0 (PQn ω Q mc ms below vs.toArray s) (entryFrame m vs.toArray M.2.2.1) := by
      rw [lg_entry_eq]
      exact k p l e _ s m _ below meth c s.heap [] _ ⟨⟨B.exec, B.bytes, B.returns, hml, findClass_of_methodNamed B.named, fun w hw => hts w (List.mem_cons_of_mem _ hw), B.notSynchronized, (name_of_methodNamed B.named B.method).1, htab⟩, ⟨Nat.le_refl _, Nat.le_refl _, Nat.le_refl _, Nat.le_refl _, hfl⟩, hV, hH, (by unfold LV; rw [hlv]; exact lv_entry vs hlen), va_S.rf⟩
    obtain ⟨t, a1, b⟩ := K s₁ hh0 (Stand.of_body B)
    obtain ⟨o, b1, b2, b3⟩ := b hN
    exact ⟨t, o, a1, b1, b2, ⟨b3.1, b3.2⟩⟩
theorem dL_person_0 : decode cL_person 0 = .ok (.aload_n 3, 1) := by decide +kernel
theorem dL_person_1 : decode cL_person 1 = .ok (.iconst 0, 1) := by decide +kernel
theorem dL_person_2 : decode cL_person 2 = .ok (.aload_n 0, 1) := by decide +kernel
theorem dL_person_3 : decode cL_person 3 = .ok (.iload_n 1, 1) := by decide +kernel
theorem dL_person_4 : decode cL_person 4 = .ok (.iload_n 2, 1) := by decide +kernel
theorem dL_person_5 : decode cL_person 5 = .ok (.invokevirtual 7, 3) := by decide +kernel
theorem dL_person_8 : decode cL_person 8 = .ok (.i2l, 1) := by decide +kernel
theorem dL_person_9 : decode cL_person 9 = .ok (.lastore, 1) := by decide +kernel
theorem dL_person_10 : decode cL_person 10 = .ok (.goto 7, 3) := by decide +kernel
theorem dL_person_13 : decode cL_person 13 = .ok (.astore 4, 2) := by decide +kernel
theorem dL_person_15 : decode cL_person 15 = .ok (.iconst 1, 1) := by decide +kernel
theorem dL_person_16 : decode cL_person 16 = .ok (.ireturn, 1) := by decide +kernel
theorem dL_person_17 : decode cL_person 17 = .ok (.iconst 0, 1) := by decide +kernel
theorem dL_person_18 : decode cL_person 18 = .ok (.ireturn, 1) := by decide +kernel
theorem ml_La_7 : ML RL 7 yX9_person := Or.inl (nse_ws (List.mem_cons_of_mem _ (List.mem_cons_of_mem _ (List.mem_cons_of_mem _ List.mem_cons_self))))
/-- a call that throws, and is caught at 13 -/
theorem ev_callX {ω : Wd} {d : Nat} {Q : Qt} {h : Hp} {lv : List (Option Value)} {As rest : List Value} (hC : CtX ω h N_Cc_person 6 (aV ω 20 :: As)) (hd' : 7 ≤ d) (hn : As.length = 2) (hw : (rest.map fun v => v.category).sum ≤ 8)
    (k : ∀ q : Nat, Ev ω N_La_person d (PQn ω Q 1 6) 1 6 1 6 SH PT (zB ω) h 13 lv [.ref q]) : Ev ω N_La_person d (PQn ω Q 1 6) 1 6 0 0 SH PT (zB ω) h 5 lv (As.reverse ++ aV ω 20 :: rest) := by
  intro p l e R s m args below meth c H locs ls Y
  obtain ⟨C, rm9, hV, hH, hl, hS⟩ := id Y
  refine (Classical.em (Nd s)).elim (fun hN => ?_) (fun hN => fun T hT X => ⟨_, Steps.refl _, fun g => absurd g hN⟩)
  have hts : ∀ w ∈ WS, w.before args s = true := C.2.2.2.2.2.1
  have ha : aV ω 20 = .ref (ω.1 20) := aV_pos (by decide)
  rw [ha] at hC ⊢
  have hp : PreV s H RX9 (ω.1 20) (PcN ω (.ref (ω.1 20) :: As) h) As := ⟨PcN.blind, ev_recv hV hH (by decide) SH20 (y := yX9_person) ⟨_, rfl, rfl⟩, fun U hU hW => ⟨⟨rfl, hV.warm hW, by rw [hU]; exact hH.moved hW.alike⟩, hN.moved hW.alike⟩⟩
  have hM := mt_Cc_person
  have hst := st_Cc_person
  have hR : 6 + 1 ≤ R.frames ∧ 8 + (3 + 11) + 60 * 6 ≤ R.locals := by omega
  have g : Cond.methodLink RL 7 yX9_person ∈ WS := nse_ws (List.mem_cons_of_mem _ (List.mem_cons_of_mem _ (List.mem_cons_of_mem _ List.mem_cons_self)))
  have K := vx_runV (e := e) (meth := meth) (below := below) (locs := locs) (cells := 0) (slots := 0) (H := H) (g := F0 m 5 ls (As.reverse ++ .ref (ω.1 20) :: rest)) (rest := rest) ⟨C.1, C.2.1, C.2.2.2.1, C.2.2.2.2.1, hts⟩ (hC l rm9.2.2.2.2) ⟨⟨rfl, rfl, hR.1, hR.2, pay_WS hM hts, List.mem_cons_self, hts _ hM.1, hts _ hM.2.1, ⟨hM.2.2.1.1, hM.2.2.1.2.1⟩, cnt_of hM, hts _ g⟩, hts _ hst.1, hts _ hst.2⟩ hp rfl hn hl.1 rfl (lv_room hw) dL_person_5 ⟨by omega, by omega⟩
  intro T hT X
  rcases K T hT X with ⟨v, st₀, t, T', L, h0, X', hL, e1, e2, hQ, stp⟩ | ⟨q, st₀, t, T', L, E, ce, h0, X', hL, e1, e2, hX, hce, hcv, hcl, stp⟩
  · obtain ⟨⟨v9, sh', pt', z', h', hv, hq, hb⟩, -⟩ := hQ
    exact hq.elim
  · obtain ⟨rfl, hb, hz, hk⟩ := hX
    rw [h0] at hz hk
    have hal : s.vm.Alike t.vm := by rw [← e2]; exact X'.warmed.alike
    have hb9 : HF ω SH PT (zB ω) h s T'.heap := by rw [e1]; exact hb.moved hal.symm
    have hS9 : va_S (fr ω) s.heap T'.heap (locs ++ L) := ⟨Nat.le_trans hS.1 (by rw [e1]; exact hz), fun q h1 h2 => by rw [e1, hk q (Nat.lt_of_lt_of_le h1 hS.1) h2]; exact hS.2.1 q h1 h2, fun q hq => by
      rcases List.mem_append.mp hq with g | g
      · exact hS.2.2 q g
      · exact hL q g⟩
    have htab : c.exceptionTable.toList = [] ++ (⟨0, 10, 13, 13⟩ : ExceptionTableEntry) :: [] := by rw [C.2.2.2.2.2.2.2.2, tbl_La_person]; rfl
    have KK := vx_catch (p := p) (l := l) (e := e) (R := R) (below := below) (H := T'.heap) (locs := locs ++ L) (cells := 0 + 1) (slots := 0 + 6) (pc := 5) (ls := ls) (rest := rest) (own := RL) (name := tyNSE) (E := tyNSE) (ce := ce) (q := q) C.2.2.2.2.1 [] ⟨0, 10, 13, 13⟩ [] htab (fun z hz => by cases hz) (by decide +kernel) (by decide) (hts _ (nse_ws (List.mem_cons_of_mem _ (List.mem_cons_of_mem _ List.mem_cons_self)))) (va_Nw.use rfl hV.2.2.2.1) (by rw [e1]; exact hce) hcv hcl (k q p l e R s m args below meth c T'.heap (locs ++ L) ls ⟨C, rm9, hV, hb9, hl, hS9⟩)
    obtain ⟨t2, a1, b1⟩ := KK T' rfl X'
    exact ⟨t2, stp.trans a1, b1⟩
theorem isA_ref (q : Nat) : isA (.ref q) := Or.inr ⟨q, rfl⟩
set_option maxHeartbeats 1000000 in
theorem Z_La_person {ω : Wd} {h : Hp} {a1 a2 r : Int} (hP : Cc_isPerson h 20 a1 = some (r, h)) (hT : w32 r = 0 ∨ w32 a2 < 0 ∨ 3 < w32 a2) : CtW ω N_La_person 8 [aV ω 20, iV a1, iV a2, aV ω 80] h 1 6 (QB (some (iV 1)) (zB ω) h) := by
  refine CtW_of (lv := [some (aV ω 20), some (iV a1), some (iV a2), some (aV ω 80), none]) (by decide) (Nat.le_trans (sl_1 (cat_aV _ _) (sl_1 (cat_iV _) (sl_1 (cat_iV _) (sl_1 (cat_aV _ _) sl_z)))) (Nat.le_of_ble_eq_true rfl)) (la_1 (cat_aV _ _) (la_1 (cat_iV _) (la_1 (cat_iV _) (la_1 (cat_aV _ _) (la_n la_z))))) ?_
  refine ev_aload_n (pc := 0) (i := 3) dL_person_0 rfl rfl ?_
  refine ev_iconst (pc := 1) dL_person_1 ?_
  refine ev_aload_n (pc := 2) (i := 0) dL_person_2 rfl rfl ?_
  refine ev_iload_n (pc := 3) (i := 1) dL_person_3 rfl rfl ?_
  refine ev_iload_n (pc := 4) (i := 2) dL_person_4 rfl rfl ?_
  refine ev_callX (As := [iV a1, iV a2]) (rest := [iV 0, aV ω 80]) (X_Cc_person hP hT) (by decide) rfl (Nat.le_trans (sm_1 (cat_iV _) (sm_1 (cat_aV _ _) sm_z)) (by decide)) (fun q => ?_)
  refine ev_astore (pc := 13) (i := 4) (isA_ref q) dL_person_13 (lnl_v (v := aV ω 80) (cat_aV _ _) rfl) (by decide) ?_
  refine ev_iconst (pc := 15) dL_person_15 ?_
  refine ev_n ?_
  exact ev_iret (pc := 16) dL_person_16 rfl (Nat.le_refl _) (Nat.le_refl _) ⟨rfl, rfl, rfl, rfl, rfl⟩
set_option maxHeartbeats 1000000 in
theorem Y_La_person {ω : Wd} {h h' : Hp} {a1 a2 r : Int} (hP : Cc_person h 20 a1 a2 = some (r, h')) : CtW ω N_La_person 8 [aV ω 20, iV a1, iV a2, aV ω 80] h 1 6 (QB (some (iV 0)) (zB ω) (up h' 80 0 (w32 r))) := by
  refine CtW_of (lv := [some (aV ω 20), some (iV a1), some (iV a2), some (aV ω 80), none]) (by decide) (Nat.le_trans (sl_1 (cat_aV _ _) (sl_1 (cat_iV _) (sl_1 (cat_iV _) (sl_1 (cat_aV _ _) sl_z)))) (Nat.le_of_ble_eq_true rfl)) (la_1 (cat_aV _ _) (la_1 (cat_iV _) (la_1 (cat_iV _) (la_1 (cat_aV _ _) (la_n la_z))))) ?_
  refine ev_aload_n (pc := 0) (i := 3) dL_person_0 rfl rfl ?_
  refine ev_iconst (pc := 1) dL_person_1 ?_
  refine ev_aload_n (pc := 2) (i := 0) dL_person_2 rfl rfl ?_
  refine ev_iload_n (pc := 3) (i := 1) dL_person_3 rfl rfl ?_
  refine ev_iload_n (pc := 4) (i := 2) dL_person_4 rfl rfl ?_
  refine ev_callV (pc := 5) (As := [iV a1, iV a2]) (rest := [iV 0, aV ω 80]) (M_Cc_person hP) dL_person_5 mt_Cc_person st_Cc_person ml_La_7 (by decide) SH20 ⟨_, rfl, rfl⟩ (Nat.le_of_ble_eq_true rfl) rfl (Nat.le_trans (sm_1 (cat_iV _) (sm_1 (cat_aV _ _) sm_z)) (by decide)) (Nat.le_of_ble_eq_true rfl) (Nat.le_of_ble_eq_true rfl) (fun v sh' pt' z' h' hq => ?_)
  obtain ⟨rfl, rfl, rfl, rfl, rfl⟩ := hq
  refine ev_i2l (pc := 8) dL_person_8 ?_
  refine ev_last (pc := 9) dL_person_9 (by rw [SH80]) (by decide) (by decide) (by rw [SH80]; decide) ?_
  refine ev_goto (pc := 10) (tgt := 17) dL_person_10 rfl ?_
  refine ev_iconst (pc := 17) dL_person_17 ?_
  refine ev_n ?_
  exact ev_iret (pc := 18) dL_person_18 rfl (Nat.zero_le _) (Nat.zero_le _) ⟨rfl, rfl, rfl, rfl, rfl⟩
end Person
