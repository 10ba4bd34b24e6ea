section EvCalls
abbrev Qt : Type := Option Value → Shp → Ptr → (Nat → Prop) → Hp → Prop
def QcOf (ω : Wd) (Q : Qt) : Array Value → State → Outcome → State → Prop := fun _ st o t => (∃ (v : Option Value) (sh : Shp) (pt : Ptr) (z : Nat → Prop) (h : Hp), o = .returned v ∧ Q v sh pt z h ∧ HF ω sh pt z h t t.heap) ∧ va_F (fr ω) st t
def PQm (ω : Wd) (Q : Qt) (mc ms : Nat) : PQt := fun below args s => MQ below (QcOf ω Q) args s mc ms (fr ω)
def PcOf (ω : Wd) (vs : List Value) (sh : Shp) (pt : Ptr) (z : Nat → Prop) (h : Hp) : Array Value → State → Prop := fun a U => a = vs.toArray ∧ VF ω U ∧ HF ω sh pt z h U U.heap
/-- a method's contract at one heap -/
def Ct (ω : Wd) (M : Mt) (d : Nat) (vs : List Value) (sh : Shp) (pt : Ptr) (z : Nat → Prop) (h : Hp) (mc ms : Nat) (Q : Qt) : Prop :=
  ∀ l : Launch, l.flags = flags0 → Met l M.1 (Cond.code M.1 M.2.1 M.2.2.1 M.2.2.2 :: WS) ({ frames := d, cells := mc, slots := ms, locals := 60 * d }) (PcOf ω vs sh pt z h) (QcOf ω Q) mc ms (fr ω)
theorem PcOf.blind {ω : Wd} {vs : List Value} {sh : Shp} {pt : Ptr} {z : Nat → Prop} {h : Hp} : FrameBlind (PcOf ω vs sh pt z h) := fun a U g mk q => ⟨q.1, q.2.1.same rfl, q.2.2.moved (u := U) (U := U.calling g mk a) (Vm.Alike.refl U.vm)⟩
variable {ω : Wd} {M : Mt} {d mc ms cl sl : Nat} {PQ : PQt} {sh : Shp} {pt : Ptr} {z : Nat → Prop} {h : Hp} {pc : Nat} {lv : List (Option Value)} {st : List Value}
theorem Ct_of {vs : List Value} {Q : Qt} (hpl : plainName M.1.cls = true) (hlen : (lg_sl vs).length ≤ M.2.2.1) (hlv : lvA 0 lv = lv_args 0 vs) (k : Ev ω M d (PQm ω Q mc ms) mc ms 0 0 sh pt z h 0 lv []) (htb : tblM M = [] := by decide +kernel) : Ct ω M d vs sh pt z h mc ms Q := by
  intro l hfl
  refine Met.ofW (cc := M.2.1) (maxL := M.2.2.1) (ret := M.2.2.2) hpl rfl ?_
  intro p e s m args below meth c s₁ B hml hv
  obtain ⟨rfl, hV, hH⟩ := hv
  have hts := atoms_spec (ws := Cond.code M.1 M.2.1 M.2.2.1 M.2.2.2 :: WS) B.pre
  have htab : c.exceptionTable.toList = tableOf (tblM M) := by
    obtain ⟨meth9, c9, h1, h2, -, -, -, -, h7, -⟩ := Cond.code_spec B.named (hts _ List.mem_cons_self)
    cases Option.some.inj (h1.symm.trans B.method)
    cases Option.some.inj (h2.symm.trans (Stand.of_body B).code)
    rw [Array.isEmpty_iff.mp h7, htb]
    rfl
  rw [lg_entry_eq]
  refine k p l e _ s m _ below meth c s.heap [] _ ⟨⟨B.exec, B.bytes, B.returns, hml, findClass_of_methodNamed B.named, fun w hw => hts w (List.mem_cons_of_mem _ hw), B.notSynchronized, (name_of_methodNamed B.named B.method).1, htab⟩, ⟨Nat.le_refl _, Nat.le_refl _, Nat.le_refl _, Nat.le_refl _, hfl⟩, hV, hH, ?_, va_S.rf⟩
  unfold LV
  rw [hlv]
  exact lv_entry vs hlen
/-! ends -/
theorem ev_iret {Q : Qt} {x : Int} (hd : decode M.2.1 pc = .ok (.ireturn, 1)) (hr : M.2.2.2 = some .int) (hc : cl ≤ mc) (hs : sl ≤ ms) (hQ : Q (some (iV x)) sh pt z h) : Ev ω M d (PQm ω Q mc ms) mc ms cl sl sh pt z h pc lv [iV x] := by
  intro p l e R s m args below meth c H locs ls Y
  refine W.widen hc hs ?_
  exact W.iret (v := Int32.ofInt x) Y.1.1 Y.1.2.1 (Y.1.2.2.1.trans hr) (fun t ht hW => ⟨⟨some (iV x), sh, pt, z, h, rfl, hQ, by rw [ht]; exact Y.2.2.2.1.moved hW.alike⟩, Y.2.2.2.2.2.F ht⟩) Y.2.2.2.2.2.2.2 hd (hlocks := Y.1.2.2.2.2.2.2.1)
theorem ev_lret {Q : Qt} {x : Int} (hd : decode M.2.1 pc = .ok (.lreturn, 1)) (hr : M.2.2.2 = some .long) (hc : cl ≤ mc) (hs : sl ≤ ms) (hQ : Q (some (lV x)) sh pt z h) : Ev ω M d (PQm ω Q mc ms) mc ms cl sl sh pt z h pc lv [lV x] := by
  intro p l e R s m args below meth c H locs ls Y
  refine W.widen hc hs ?_
  exact W.lret (v := Int64.ofInt x) Y.1.1 Y.1.2.1 (Y.1.2.2.1.trans hr) (fun t ht hW => ⟨⟨some (lV x), sh, pt, z, h, rfl, hQ, by rw [ht]; exact Y.2.2.2.1.moved hW.alike⟩, Y.2.2.2.2.2.F ht⟩) Y.2.2.2.2.2.2.2 hd (hlocks := Y.1.2.2.2.2.2.2.1)
theorem ev_vret {Q : Qt} (hd : decode M.2.1 pc = .ok (.return_, 1)) (hr : M.2.2.2 = none) (hc : cl ≤ mc) (hs : sl ≤ ms) (hQ : Q none sh pt z h) : Ev ω M d (PQm ω Q mc ms) mc ms cl sl sh pt z h pc lv [] := by
  intro p l e R s m args below meth c H locs ls Y
  refine W.widen hc hs ?_
  exact W.vret Y.1.1 Y.1.2.1 (Y.1.2.2.1.trans hr) (fun t ht hW => ⟨⟨none, sh, pt, z, h, rfl, hQ, by rw [ht]; exact Y.2.2.2.1.moved hW.alike⟩, Y.2.2.2.2.2.F ht⟩) Y.2.2.2.2.2.2.2 hd (hlocks := Y.1.2.2.2.2.2.2.1)
theorem ev_aret {Q : Qt} {x : Int} {rt : FieldType} (hd : decode M.2.1 pc = .ok (.areturn, 1)) (hr : M.2.2.2 = some rt) (hrt : (∃ n, rt = .object n) ∨ ∃ t, rt = .array t) (hc : cl ≤ mc) (hs : sl ≤ ms) (hQ : Q (some (aV ω x)) sh pt z h) : Ev ω M d (PQm ω Q mc ms) mc ms cl sl sh pt z h pc lv [aV ω x] := by
  intro p l e R s m args below meth c H locs ls Y
  refine W.widen hc hs ?_
  exact W.aret (v := aV ω x) Y.1.1 Y.1.2.1 (Y.1.2.2.1.trans hr) hrt (isA_aV ω x) (fun t ht hW => ⟨⟨some (aV ω x), sh, pt, z, h, rfl, hQ, by rw [ht]; exact Y.2.2.2.1.moved hW.alike⟩, Y.2.2.2.2.2.F ht⟩) Y.2.2.2.2.2.2.2 hd (hlocks := Y.1.2.2.2.2.2.2.1)
theorem W_nret {p : Program} {l : Launch} {e : Env} {R : Room} {s : State} {m : MethodId} {args : Array Value} {below : List Frame} {meth : Method} {c : Code} {H : Heap} {locs : List Loc} {cells slots : Nat} {cc : ByteArray} {Qc : Array Value → State → Outcome → State → Prop} {free : Addr → Prop} {v v' : Int32} {ty : FieldType} (hexec : p.tables.exec = Jvm.exec) (hb : c.code = cc) (hr : meth.sig.returnType = some ty) (hn : narrow ty (.int v) = .int v')
    (hq : ∀ t : State, t.heap = H → s.WarmedH t.vm → Qc args s (.returned (some (.int v'))) t) (hf : ∀ q ∈ locs, free q.base)
    {pc : Nat} {ls : Array Slot} (hdg : decode cc pc = .ok (.ireturn, 1)) (hlocks : meth.locks = false) : W p l e R s m args below meth c H locs cells slots (MQ below Qc args s cells slots free) (F0 m pc ls [.int v]) := by
  intro T hT X
  obtain ⟨fs, hret, hrun, hended, hW, hframe⟩ := X.leave (v := some (.int v')) (fun h => by rw [hr] at h; cases h)
  have hmeth' : T.vm.method? m = some meth := X.method'
  refine ⟨T.setFrames fs, ?_, .returned (some (.int v')), hrun, hended, hq _ hT hW, locs, ⟨⟨_, rfl⟩, hW, hframe⟩, hf⟩
  jvm_step X.here [X.here.top, hexec, hb, hdg, hmeth', hr, hn]
  (try refine ⟨rfl, ?_⟩); (try refine ⟨rfl, ?_⟩)
  first | (intro acts; rw [hret _ acts rfl rfl rfl]) | rw [hret _ _ rfl rfl rfl]
  exact Steps.refl _
theorem ev_zret {Q : Qt} {x y : Int} (hd : decode M.2.1 pc = .ok (.ireturn, 1)) (hr : M.2.2.2 = some .boolean) (hy : x % 2 = y) (hc : cl ≤ mc) (hs : sl ≤ ms) (hQ : Q (some (iV y)) sh pt z h) : Ev ω M d (PQm ω Q mc ms) mc ms cl sl sh pt z h pc lv [iV x] := by
  intro p l e R s m args below meth c H locs ls Y
  refine W.widen hc hs ?_
  have hn : narrow .boolean (.int (Int32.ofInt x)) = .int (Int32.ofInt y) := by
    subst hy
    exact iV_bit x
  exact W_nret (v := Int32.ofInt x) (v' := Int32.ofInt y) Y.1.1 Y.1.2.1 (Y.1.2.2.1.trans hr) hn (fun t ht hW => ⟨⟨some (iV y), sh, pt, z, h, rfl, hQ, by rw [ht]; exact Y.2.2.2.1.moved hW.alike⟩, Y.2.2.2.2.2.F ht⟩) Y.2.2.2.2.2.2.2 hd Y.1.2.2.2.2.2.2.1
/-! calls -/
/-- what the tables say of a method that is called -/
def MT (N : Mt) (n : Nat) : Prop := Cond.code N.1 N.2.1 N.2.2.1 N.2.2.2 ∈ WS ∧ Cond.initialized N.1.cls ∈ WS ∧ (N.1.cls ≠ "java/lang/invoke/MethodHandle" ∧ N.1.cls ≠ "java/lang/invoke/VarHandle" ∧ (parseMethodDescriptor N.1.desc).map (fun d => d.parameters.length) = some n) ∧ N.2.2.1 ≤ 41
/-- own's pool entry is the method, on its own or within the nest -/
def ML (own : String) (idx : Nat) (y : MethodName) : Prop := Cond.methodLink own idx y ∈ WS ∨ ∃ host, (own, idx, y, host) ∈ NW
theorem cnt_of {N : Mt} {n : Nat} (hM : MT N n) (sig : MethodDescriptor) (hs : parseMethodDescriptor N.1.desc = some sig) : n = sig.parameters.length := by
  have h2 := hM.2.2.1.2.2
  rw [hs] at h2
  exact (Option.some.inj h2).symm
theorem pay_WS {N : Mt} {n : Nat} (hM : MT N n) {s : State} {args : Array Value} (hts : ∀ w ∈ WS, w.before args s = true) : ∀ w ∈ (Cond.code N.1 N.2.1 N.2.2.1 N.2.2.2 :: WS), ∀ (a' : Array Value) (U : State), s.WarmedH U.vm → w.before a' U = true := by
  intro w hw a' U hW
  have hw' : w ∈ WS := by
    rcases List.mem_cons.mp hw with rfl | g
    · exact hM.1
    · exact g
  exact word_at hW (WS_good hw') (hts w hw')
theorem ev_callcore {v0 : List Value} {st0 rest : List Value} {d' mc' ms' : Nat} {N : Mt} {Qc : Qt} (hcl : cl + mc' ≤ mc) (hsl : sl + ms' ≤ ms)
    (hrun : ∀ (p : Program) (l : Launch) (e : Env) (R : Room) (s : State) (m : MethodId) (args : Array Value) (below : List Frame) (meth : Method) (c : Code) (H : Heap) (locs : List Loc) (ls : Array Slot), Hy ω M d mc ms sh pt z h lv p l R s m args meth c H locs ls → va_Run p l e R s m args below meth c H locs cl sl mc' ms' (F0 m pc ls st0) rest (QcOf ω Qc v0.toArray) (fr ω))
    (k : ∀ v sh' pt' z' h', Qc v sh' pt' z' h' → Ev ω M d PQ mc ms (cl + mc') (sl + ms') sh' pt' z' h' (pc + 3) lv (v.toList ++ rest)) : Ev ω M d PQ mc ms cl sl sh pt z h pc lv st0 := by
  intro p l e R s m args below meth c H locs ls Y
  intro T hT X
  obtain ⟨v, st₀, t, T', L, h0, X', hL, e1, e2, ⟨⟨v9, sh', pt', z', h', hv, hq, hb⟩, hz, hk⟩, stp⟩ := hrun p l e R s m args below meth c H locs ls Y T hT X
  obtain rfl : v = v9 := Outcome.returned.inj hv
  rw [h0] at hz hk
  obtain ⟨C, rm9, hV, hH, hl, hS⟩ := Y
  have hal : s.vm.Alike t.vm := by rw [← e2]; exact X'.warmed.alike
  have hb9 : HF ω sh' pt' z' h' s T'.heap := by rw [e1]; exact hb.moved hal.symm
  obtain ⟨t2, a1, b1⟩ := k v sh' pt' z' h' hq p l e R s m args below meth c T'.heap (locs ++ L) ls ⟨C, rm9, hV, hb9, hl, ⟨Nat.le_trans hS.1 (by rw [e1]; exact hz), fun q h1 h2 => by rw [e1, hk q (Nat.lt_of_lt_of_le h1 hS.1) h2]; exact hS.2.1 q h1 h2, fun q hq => by
      rcases List.mem_append.mp hq with g | g
      · exact hS.2.2 q g
      · exact hL q g⟩⟩ T' rfl X'
  exact ⟨t2, stp t2 a1, b1⟩
theorem ev_callS {idx d' mc' ms' n : Nat} {N : Mt} {As rest : List Value} {Qc : Qt} (hC : Ct ω N d' As sh pt z h mc' ms' Qc) (hd : decode M.2.1 pc = .ok (.invokestatic idx, 3)) (hM : MT N n) (hst : Cond.static N.1 ∈ WS) (hL : ML M.1.cls idx N.1) (hd' : d' + 1 ≤ d) (hn : As.length = n) (hw : (rest.map fun v => v.category).sum ≤ 8) (hcl : cl + mc' ≤ mc) (hsl : sl + ms' ≤ ms)
    (k : ∀ v sh' pt' z' h', Qc v sh' pt' z' h' → Ev ω M d PQ mc ms (cl + mc') (sl + ms') sh' pt' z' h' (pc + 3) lv (v.toList ++ rest)) : Ev ω M d PQ mc ms cl sl sh pt z h pc lv (As.reverse ++ rest) := by
  refine ev_callcore (v0 := As) (d' := d') (N := N) hcl hsl ?_ k
  intro p l e R s m args below meth c H locs ls Y
  obtain ⟨C, rm9, hV, hH, hl, hS⟩ := id Y
  have hts : ∀ w ∈ WS, w.before args s = true := C.2.2.2.2.2.1
  have hp : PreS s H (PcOf ω As sh pt z h) As := ⟨PcOf.blind, fun U hU hW => ⟨rfl, hV.warm hW, by rw [hU]; exact hH.moved hW.alike⟩⟩
  have hR : d' + 1 ≤ R.frames ∧ 8 + (N.2.2.1 + 11) + 60 * d' ≤ R.locals := by have := hM.2.2.2; omega
  rcases hL with g | ⟨host, g⟩
  · exact va_runS ⟨C.1, C.2.1, C.2.2.2.1, C.2.2.2.2.1, hts⟩ (hC l rm9.2.2.2.2) ⟨⟨rfl, rfl, hR.1, hR.2, pay_WS hM hts, List.mem_cons_self, hts _ hM.1, hts _ hM.2.1, ⟨hM.2.2.1.1, hM.2.2.1.2.1⟩, cnt_of hM, hts _ g⟩, hts _ hst⟩ hp rfl hn hl.1 rfl (lv_room hw) hd ⟨by omega, by omega⟩
  · exact va_runSN ⟨C.1, C.2.1, C.2.2.2.1, C.2.2.2.2.1, hts⟩ (hC l rm9.2.2.2.2) ⟨⟨⟨rfl, rfl, hR.1, hR.2, pay_WS hM hts, List.mem_cons_self⟩, hts _ hM.1, hts _ hM.2.1, ⟨hM.2.2.1.1, hM.2.2.1.2.1⟩, cnt_of hM, va_Nw.use rfl (hV.2.2.1 _ g)⟩, hts _ hst, trivial⟩ hp rfl hn hl.1 rfl (lv_room hw) hd ⟨by omega, by omega⟩
theorem ev_recv {a : Int} {c9 : Nat} {y : MethodName} {U : State} {H : Heap} (hV : VF ω U) (hH : HF ω sh pt z h U H) (hc : c9 < 100) (hs : (sh a).1 = c9) (hy : ∃ q, vwCl[c9]? = some q ∧ q.1 = y.cls) : ∃ cellB : Cell, H[ω.1 a]? = some cellB ∧ cellB.vm.isStatics = false ∧ U.vm.findClass y.cls = some cellB.cls := by
  obtain ⟨cell, c1, c2, c3, -, -⟩ := hH.1 a (by omega)
  obtain ⟨g1, g2, q', g3, g4⟩ := c3 (by omega)
  obtain ⟨q, hq, e⟩ := hy
  rw [hs] at g2
  obtain ⟨-, hfc, -⟩ := hV.1 c9 q hq
  exact ⟨cell, c1, by rw [g1]; rfl, by rw [g2, ← e]; exact hfc⟩
theorem ev_callV {idx d' mc' ms' n c9 : Nat} {a : Int} {N : Mt} {As rest : List Value} {Qc : Qt} (hC : Ct ω N d' (aV ω a :: As) sh pt z h mc' ms' Qc) (hd : decode M.2.1 pc = .ok (.invokevirtual idx, 3)) (hM : MT N n) (hst : Cond.instanceMethod N.1 ∈ WS ∧ Cond.selects N.1.cls N.1 N.1 ∈ WS) (hL : ML M.1.cls idx N.1) (hc : c9 < 100) (hs : (sh a).1 = c9) (hy : ∃ q, vwCl[c9]? = some q ∧ q.1 = N.1.cls) (hd' : d' + 1 ≤ d) (hn : As.length = n) (hw : (rest.map fun v => v.category).sum ≤ 8) (hcl : cl + mc' ≤ mc) (hsl : sl + ms' ≤ ms)
    (k : ∀ v sh' pt' z' h', Qc v sh' pt' z' h' → Ev ω M d PQ mc ms (cl + mc') (sl + ms') sh' pt' z' h' (pc + 3) lv (v.toList ++ rest)) : Ev ω M d PQ mc ms cl sl sh pt z h pc lv (As.reverse ++ aV ω a :: rest) := by
  refine ev_callcore (v0 := aV ω a :: As) (d' := d') (N := N) hcl hsl ?_ k
  intro p l e R s m args below meth c H locs ls Y
  obtain ⟨C, rm9, hV, hH, hl, hS⟩ := id Y
  have hts : ∀ w ∈ WS, w.before args s = true := C.2.2.2.2.2.1
  have ha : aV ω a = .ref (ω.1 a) := aV_pos (hH.2.2.2.1 a (by omega))
  rw [ha] at hC ⊢
  have hp : PreV s H N.1.cls (ω.1 a) (PcOf ω (.ref (ω.1 a) :: As) sh pt z h) As := ⟨PcOf.blind, ev_recv hV hH hc hs hy, fun U hU hW => ⟨rfl, hV.warm hW, by rw [hU]; exact hH.moved hW.alike⟩⟩
  have hR : d' + 1 ≤ R.frames ∧ 8 + (N.2.2.1 + 11) + 60 * d' ≤ R.locals := by have := hM.2.2.2; omega
  rcases hL with g | ⟨host, g⟩
  · exact va_runV ⟨C.1, C.2.1, C.2.2.2.1, C.2.2.2.2.1, hts⟩ (hC l rm9.2.2.2.2) ⟨⟨rfl, rfl, hR.1, hR.2, pay_WS hM hts, List.mem_cons_self, hts _ hM.1, hts _ hM.2.1, ⟨hM.2.2.1.1, hM.2.2.1.2.1⟩, cnt_of hM, hts _ g⟩, hts _ hst.1, hts _ hst.2⟩ hp rfl hn hl.1 rfl (lv_room hw) hd ⟨by omega, by omega⟩
  · exact va_runVN ⟨C.1, C.2.1, C.2.2.2.1, C.2.2.2.2.1, hts⟩ (hC l rm9.2.2.2.2) ⟨⟨⟨rfl, rfl, hR.1, hR.2, pay_WS hM hts, List.mem_cons_self⟩, hts _ hM.1, hts _ hM.2.1, ⟨hM.2.2.1.1, hM.2.2.1.2.1⟩, cnt_of hM, va_Nw.use rfl (hV.2.2.1 _ g)⟩, hts _ hst.1, hts _ hst.2⟩ hp rfl hn hl.1 rfl (lv_room hw) hd ⟨by omega, by omega⟩
theorem ev_callI {idx d' mc' ms' n c9 : Nat} {a : Int} {N : Mt} {As rest : List Value} {Qc : Qt} (hC : Ct ω N d' (aV ω a :: As) sh pt z h mc' ms' Qc) (hd : decode M.2.1 pc = .ok (.invokespecial idx, 3)) (hM : MT N n) (hr : N.2.2.2 = none) (hst : Cond.instanceMethod N.1 ∈ WS ∧ N.1.name = "<init>") (hL : ML M.1.cls idx N.1) (hc : c9 < 100) (hs : (sh a).1 = c9) (hd' : d' + 1 ≤ d) (hn : As.length = n) (hw : (rest.map fun v => v.category).sum ≤ 8) (hcl : cl + mc' ≤ mc) (hsl : sl + ms' ≤ ms)
    (k : ∀ v sh' pt' z' h', Qc v sh' pt' z' h' → Ev ω M d PQ mc ms (cl + mc') (sl + ms') sh' pt' z' h' (pc + 3) lv (v.toList ++ rest)) : Ev ω M d PQ mc ms cl sl sh pt z h pc lv (As.reverse ++ aV ω a :: rest) := by
  refine ev_callcore (v0 := aV ω a :: As) (d' := d') (N := N) hcl hsl ?_ k
  intro p l e R s m args below meth c H locs ls Y
  obtain ⟨C, rm9, hV, hH, hl, hS⟩ := id Y
  have hts : ∀ w ∈ WS, w.before args s = true := C.2.2.2.2.2.1
  have ha : aV ω a = .ref (ω.1 a) := aV_pos (hH.2.2.2.1 a (by omega))
  rw [ha] at hC ⊢
  have hp : PreS s H (PcOf ω (.ref (ω.1 a) :: As) sh pt z h) (.ref (ω.1 a) :: As) := ⟨PcOf.blind, fun U hU hW => ⟨rfl, hV.warm hW, by rw [hU]; exact hH.moved hW.alike⟩⟩
  have hR : d' + 1 ≤ R.frames ∧ 8 + (N.2.2.1 + 11) + 60 * d' ≤ R.locals := by have := hM.2.2.2; omega
  have hM' := hM.1
  rw [hr] at hM'
  have hC' := hC l rm9.2.2.2.2
  rw [hr] at hC'
  have hpay := pay_WS hM hts
  rw [hr] at hpay
  rcases hL with g | ⟨host, g⟩
  · exact va_runI ⟨C.1, C.2.1, C.2.2.2.1, C.2.2.2.2.1, hts⟩ hC' ⟨⟨rfl, rfl, hR.1, hR.2, hpay, List.mem_cons_self, hts _ hM', hts _ hM.2.1, ⟨hM.2.2.1.1, hM.2.2.1.2.1⟩, cnt_of hM, hts _ g⟩, hst.2, hts _ hst.1⟩ hp rfl hn hl.1 rfl (lv_room hw) hd ⟨by omega, by omega⟩
  · exact va_runIN ⟨C.1, C.2.1, C.2.2.2.1, C.2.2.2.2.1, hts⟩ hC' ⟨⟨⟨rfl, rfl, hR.1, hR.2, hpay, List.mem_cons_self⟩, hts _ hM', hts _ hM.2.1, ⟨hM.2.2.1.1, hM.2.2.1.2.1⟩, cnt_of hM, va_Nw.use rfl (hV.2.2.1 _ g)⟩, hst.2, hts _ hst.1⟩ hp rfl hn hl.1 rfl (lv_room hw) hd ⟨by omega, by omega⟩
theorem ev_objInit {idx : Nat} {a : Int} (hd : decode M.2.1 pc = .ok (.invokespecial idx, 3)) (h1 : Cond.methodLink M.1.cls idx objectInit ∈ WS) (h2 : Cond.instanceMethod objectInit ∈ WS) (h3 : Cond.code objectInit ⟨#[0xb1]⟩ 1 none ∈ WS) (ha : 0 ≤ a) (hw : (st.map fun v => v.category).sum ≤ 8) (hd' : 1 ≤ d) (k : Ev ω M d PQ mc ms cl sl sh pt z h (pc + 3) lv st) : Ev ω M d PQ mc ms cl sl sh pt z h pc lv (aV ω a :: st) := by
  intro p l e R s m args below meth c H locs ls Y
  have hts : ∀ w ∈ WS, w.before args s = true := Y.1.2.2.2.2.2.1
  rw [aV_pos ha]
  have hR := Y.2.1
  exact W.objInit Y.1.1 Y.1.2.1 Y.1.2.2.2.2.1 (hts _ h1) (hts _ h2) (hts _ h3) rfl (Y.2.2.2.2.1.1.trans Y.1.2.2.2.1.symm) rfl hd (by omega) (by show 2 * 0 + _ + 12 ≤ _; omega) (k p l e R s m args below meth c H locs ls Y)
theorem ev_max {x y : Int} {idx : Nat} (hd : decode M.2.1 pc = .ok (.invokestatic idx, 3)) (h1 : Cond.methodLink M.1.cls idx Lib.Math.max.name ∈ WS) (h2 : Cond.static Lib.Math.max.name ∈ WS) (h3 : Cond.initialized "java/lang/Math" ∈ WS) (h4 : Cond.code Lib.Math.max.name Lib.Math.max.code 2 (some .int) ∈ WS) (hw : (st.map fun v => v.category).sum ≤ 8) (hd' : 1 ≤ d) (hc : cl ≤ mc) (hs : sl ≤ ms) (k : Ev ω M d PQ mc ms cl sl sh pt z h (pc + 3) lv (iV (if w32 x < w32 y then y else x) :: st)) : Ev ω M d PQ mc ms cl sl sh pt z h pc lv (iV y :: iV x :: st) := by
  intro p l e R s m args below meth c H locs ls Y
  have hts : ∀ w ∈ WS, w.before args s = true := Y.1.2.2.2.2.2.1
  have hR := Y.2.1
  refine va_mmax Y.1.1 Y.1.2.1 (Y.1.2.2.2.1.trans Y.2.2.2.2.1.1.symm) Y.1.2.2.2.2.1 (hts _ h1) (hts _ h2) (hts _ h3) (hts _ h4) (by omega) (by omega) (by omega) (by omega) hd ?_
  rw [iV_max]
  exact k p l e R s m args below meth c H locs ls Y
theorem ev_min {x y : Int} {idx : Nat} (hd : decode M.2.1 pc = .ok (.invokestatic idx, 3)) (h1 : Cond.methodLink M.1.cls idx Lib.Math.min.name ∈ WS) (h2 : Cond.static Lib.Math.min.name ∈ WS) (h3 : Cond.initialized "java/lang/Math" ∈ WS) (h4 : Cond.code Lib.Math.min.name Lib.Math.min.code 2 (some .int) ∈ WS) (hw : (st.map fun v => v.category).sum ≤ 8) (hd' : 1 ≤ d) (hc : cl ≤ mc) (hs : sl ≤ ms) (k : Ev ω M d PQ mc ms cl sl sh pt z h (pc + 3) lv (iV (if w32 y < w32 x then y else x) :: st)) : Ev ω M d PQ mc ms cl sl sh pt z h pc lv (iV y :: iV x :: st) := by
  intro p l e R s m args below meth c H locs ls Y
  have hts : ∀ w ∈ WS, w.before args s = true := Y.1.2.2.2.2.2.1
  have hR := Y.2.1
  refine va_mmin Y.1.1 Y.1.2.1 (Y.1.2.2.2.1.trans Y.2.2.2.2.1.1.symm) Y.1.2.2.2.2.1 (hts _ h1) (hts _ h2) (hts _ h3) (hts _ h4) (by omega) (by omega) (by omega) (by omega) hd ?_
  rw [iV_min]
  exact k p l e R s m args below meth c H locs ls Y
theorem ev_abs {x : Int} {idx : Nat} (hd : decode M.2.1 pc = .ok (.invokestatic idx, 3)) (h1 : Cond.methodLink M.1.cls idx Lib.Math.abs.name ∈ WS) (h2 : Cond.static Lib.Math.abs.name ∈ WS) (h3 : Cond.initialized "java/lang/Math" ∈ WS) (h4 : Cond.code Lib.Math.abs.name Lib.Math.abs.code 1 (some .int) ∈ WS) (hw : (st.map fun v => v.category).sum ≤ 8) (hd' : 1 ≤ d) (hc : cl ≤ mc) (hs : sl ≤ ms) (k : Ev ω M d PQ mc ms cl sl sh pt z h (pc + 3) lv (iV (if 0 ≤ w32 x then x else -x) :: st)) : Ev ω M d PQ mc ms cl sl sh pt z h pc lv (iV x :: st) := by
  intro p l e R s m args below meth c H locs ls Y
  have hts : ∀ w ∈ WS, w.before args s = true := Y.1.2.2.2.2.2.1
  have hR := Y.2.1
  refine va_mabs Y.1.1 Y.1.2.1 (Y.1.2.2.2.1.trans Y.2.2.2.2.1.1.symm) Y.1.2.2.2.2.1 (hts _ h1) (hts _ h2) (hts _ h3) (hts _ h4) (by omega) (by omega) (by omega) (by omega) hd ?_
  rw [iV_abs]
  exact k p l e R s m args below meth c H locs ls Y
theorem ev_lmax {x y : Int} {idx : Nat} (hd : decode M.2.1 pc = .ok (.invokestatic idx, 3)) (h1 : Cond.methodLink M.1.cls idx Lib.MathLoose.max_long.x ∈ WS) (h2 : Cond.static Lib.MathLoose.max_long.x ∈ WS) (h3 : Cond.initialized "java/lang/Math" ∈ WS) (h4 : Cond.code Lib.MathLoose.max_long.x Lib.MathLoose.max_long.code 4 (some .long) ∈ WS) (hw : (st.map fun v => v.category).sum ≤ 8) (hd' : 1 ≤ d) (hc : cl ≤ mc) (hs : sl ≤ ms) (k : Ev ω M d PQ mc ms cl sl sh pt z h (pc + 3) lv (lV (if w64 y < w64 x then x else y) :: st)) : Ev ω M d PQ mc ms cl sl sh pt z h pc lv (lV y :: lV x :: st) := by
  intro p l e R s m args below meth c H locs ls Y
  have hts : ∀ w ∈ WS, w.before args s = true := Y.1.2.2.2.2.2.1
  have hR := Y.2.1
  refine va_mmax_long Y.1.1 Y.1.2.1 (Y.1.2.2.2.1.trans Y.2.2.2.2.1.1.symm) Y.1.2.2.2.2.1 (hts _ h1) (hts _ h2) (hts _ h3) (hts _ h4) (by omega) (by omega) (by omega) (by omega) hd ?_
  rw [lV_max]
  exact k p l e R s m args below meth c H locs ls Y
theorem ev_lmin {x y : Int} {idx : Nat} (hd : decode M.2.1 pc = .ok (.invokestatic idx, 3)) (h1 : Cond.methodLink M.1.cls idx Lib.MathLoose.min_long.x ∈ WS) (h2 : Cond.static Lib.MathLoose.min_long.x ∈ WS) (h3 : Cond.initialized "java/lang/Math" ∈ WS) (h4 : Cond.code Lib.MathLoose.min_long.x Lib.MathLoose.min_long.code 4 (some .long) ∈ WS) (hw : (st.map fun v => v.category).sum ≤ 8) (hd' : 1 ≤ d) (hc : cl ≤ mc) (hs : sl ≤ ms) (k : Ev ω M d PQ mc ms cl sl sh pt z h (pc + 3) lv (lV (if w64 y < w64 x then y else x) :: st)) : Ev ω M d PQ mc ms cl sl sh pt z h pc lv (lV y :: lV x :: st) := by
  intro p l e R s m args below meth c H locs ls Y
  have hts : ∀ w ∈ WS, w.before args s = true := Y.1.2.2.2.2.2.1
  have hR := Y.2.1
  refine va_mmin_long Y.1.1 Y.1.2.1 (Y.1.2.2.2.1.trans Y.2.2.2.2.1.1.symm) Y.1.2.2.2.2.1 (hts _ h1) (hts _ h2) (hts _ h3) (hts _ h4) (by omega) (by omega) (by omega) (by omega) hd ?_
  rw [lV_min]
  exact k p l e R s m args below meth c H locs ls Y
end EvCalls
