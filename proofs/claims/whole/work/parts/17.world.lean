section World0
/-! THE WORLD AT THE LAW'S ENTRY, out of what the Statement gives. -/
def zL (i : Nat) : Nat := [9, 9, 9, 9, 6, 4, 4].getD i 0
theorem w0_eval {args : Array Value} {s : State} {t : Term} {z : Int32} (h : (Cond.eq t (.int z)).before args s = true) : t.eval args s none [] s = some (.int z) := by
  cases hv : t.eval args s none [] s with
  | none => simp [Cond.before, Cond.holds, Cond.value, hv] at h
  | some w =>
    have hz : (Term.int z).eval args s none [] s = some (.int z) := rfl
    simp only [Cond.before, Cond.holds, Cond.value, hv, hz] at h
    cases w <;> simp_all
abbrev gvL : List Cond := flatC (Jvm.Cond.and given_1 narrow_1)
theorem m_arr : ∀ i : Nat, i < 7 → Cond.arrayOf (.static (zC i) (zN i) "[I") .int ∈ gvL := by decide +kernel
theorem m_len : ∀ i : Nat, i < 7 → Cond.eq (.length (.static (zC i) (zN i) "[I")) (.int (Int32.ofNat (zL i))) ∈ gvL := by decide +kernel
theorem m_el : ∀ i : Nat, i < 7 → ∀ j : Nat, j < zL i → Cond.eq (.elem (.static (zC i) (zN i) "[I") (.int (Int32.ofNat j))) (.int (Int32.ofInt ((stl (i + 1)).getD j 0))) ∈ gvL := by decide +kernel
theorem m_lay : ∀ i : Nat, i < 7 → Cond.laysStatic (zC i) (zN i) "[I" ∈ lw_tbl := by decide +kernel
theorem m_ini : ∀ i : Nat, i < 7 → Cond.initialized (zC i) ∈ lw_tbl := by decide +kernel
theorem m_l31 : ∀ i : Nat, i < 7 → zL i < 2147483648 := by decide +kernel
def tmS (i : Nat) : Term := .string (kOwn i) (kIx i)
theorem m_s1 : ∀ i : Nat, i < 7 → Cond.exactly (tmS i) "java/lang/String" ∈ gvL := by decide +kernel
theorem m_s2 : ∀ i : Nat, i < 7 → Cond.eq (.field (tmS i) "java/lang/String" "coder" "B") (.int 0) ∈ gvL := by decide +kernel
theorem m_s3 : ∀ i : Nat, i < 7 → Cond.arrayOf (.field (tmS i) "java/lang/String" "value" "[B") .byte ∈ gvL := by decide +kernel
theorem m_s4 : ∀ i : Nat, i < 7 → Cond.eq (.length (.field (tmS i) "java/lang/String" "value" "[B")) (.int (Int32.ofNat (kLen.getD i 0))) ∈ gvL := by decide +kernel
theorem m_s5 : ∀ i : Nat, i < 7 → ∀ j : Nat, j < kLen.getD i 0 → Cond.eq (.elem (.field (tmS i) "java/lang/String" "value" "[B") (.int (Int32.ofNat j))) (.int ((kByt.getD i []).getD j 0)) ∈ gvL := by decide +kernel
theorem m_s6 : ∀ i : Nat, i < 7 → ∀ j : Nat, j < 7 → i ≠ j → (Cond.not (Cond.eq (tmS i) (tmS j)) ∈ gvL ∨ Cond.not (Cond.eq (tmS j) (tmS i)) ∈ gvL) := by decide +kernel
theorem m_s7 : ∀ i : Nat, i < 7 → kLen.getD i 0 < 2147483648 := by decide +kernel
theorem m_s8 : ∀ i : Nat, i < 7 → Cond.stringRef (kOwn i) (kIx i) (kTx i) ∈ lw_tbl := by decide +kernel
theorem m_cs : Cond.eq (.static "java/lang/String" "COMPACT_STRINGS" "Z") (.int 1) ∈ gvL ∧ Cond.laysStatic "java/lang/String" "COMPACT_STRINGS" "Z" ∈ lw_tbl ∧ Cond.initialized "java/lang/String" ∈ lw_tbl := by decide +kernel
theorem m_si : Cond.isRef (.static "jdk/internal/util/Preconditions" "SIOOBE_FORMATTER" "Ljava/util/function/BiFunction;") ∈ gvL ∧ Cond.laysStatic "jdk/internal/util/Preconditions" "SIOOBE_FORMATTER" "Ljava/util/function/BiFunction;" ∈ lw_tbl ∧ Cond.initialized "jdk/internal/util/Preconditions" ∈ lw_tbl := by decide +kernel
theorem m_un : Cond.isRef (.static Bundle.tN "UNASSIGNED_STACK" Bundle.steD) ∈ gvL ∧ Cond.laysStatic Bundle.tN "UNASSIGNED_STACK" Bundle.steD ∈ lw_tbl ∧ Cond.initialized Bundle.tN ∈ lw_tbl := by decide +kernel
theorem m_se : Cond.isRef (.static Bundle.tN "SUPPRESSED_SENTINEL" Bundle.listD) ∈ gvL ∧ Cond.laysStatic Bundle.tN "SUPPRESSED_SENTINEL" Bundle.listD ∈ lw_tbl := by decide +kernel
theorem m_nw : ∀ q ∈ NW, Cond.methodLinkNest q.1 q.2.1 q.2.2.1 q.2.2.2 ∈ lw_tbl := by decide +kernel
theorem m_ca : Cond.castable "java/util/NoSuchElementException" "java/util/NoSuchElementException" ∈ lw_tbl := by decide +kernel
theorem m_ao : ∀ x ∈ AOs, Cond.arrayOver (.object x) ∈ lw_tbl := by decide +kernel
theorem m_dc : ∀ w ∈ dclW, w ∈ lw_tbl := by decide +kernel
theorem m_in : ∀ c : Nat, c < 11 → (match vwCl[c]? with | some q => decide (Cond.instantiable q.1 q.2.2 ∈ lw_tbl) | none => false) = true := by decide +kernel
theorem cls_known {args : Array Value} {s : State} (hts : ∀ w ∈ lw_tbl, w.before args s = true) : ∀ c : Nat, ∃ (cC : ClassId) (iS : Nat → Nat), ∀ q : vw_C, vwCl[c]? = some q → u_Kn s q.1 q.2.1 q.2.2 cC iS := by
  intro c
  by_cases hc : c < 11
  · have g := m_in c hc
    cases hq : vwCl[c]? with
    | none => rw [hq] at g; cases g
    | some q =>
      rw [hq] at g
      obtain ⟨cC, iS, k⟩ := u_known (ws := WS) (s := s) (args := args) (C := q.1) (T := q.2.1) (N := q.2.2) (fun w hw => hts w (List.mem_filter.mp hw).1) (inWX c q hq) (hts _ (of_decide_eq_true g))
      exact ⟨cC, iS, fun q' h => by cases h; exact k⟩
  · refine ⟨default, fun _ => 0, fun q h => ?_⟩
    exact absurd (nfd_ok c q h).2 hc
theorem sN0_cases {a : Int} (h : (sN 0 a).1 < 500) : ∃ i : Nat, i < 7 ∧ a = (i : Int) + 1 ∧ sN 0 a = (100, zL i) := by
  have key : ∀ n : Nat, n < 20 → (SH (n : Int)).1 < 500 → n - 1 < 7 ∧ 1 ≤ n ∧ SH (n : Int) = (100, zL (n - 1)) := by decide +kernel
  by_cases g : a < 20
  · have e : sN 0 a = SH a := if_pos g
    rw [e] at h ⊢
    obtain ⟨h0, -⟩ := SH_dom h
    have ea : ((a.toNat : Nat) : Int) = a := by omega
    obtain ⟨k1, k2, k3⟩ := key a.toNat (by omega) (by rw [ea]; exact h)
    rw [ea] at k3
    exact ⟨a.toNat - 1, k1, by omega, k3⟩
  · have e : sN 0 a = (999, 0) := if_neg g
    rw [e] at h
    exact absurd h (by decide)
/-- the law's entry, with the method's name and its empty table too -/
def lw_At2 (p : Program) (s : State) (m : MethodId) (meth : Method) (c : Code) (b L : Nat) (xs : Nat → Int32) : Prop := lw_At p s m meth c b L xs ∧ meth.name = "law" ∧ c.exceptionTable.toList = []
set_option maxHeartbeats 1000000 in
theorem world_start {p : Program} {s : State} {m : MethodId} {meth : Method} {c : Code} {b L : Nat} {xs : Nat → Int32} (C0 : lw_At p s m meth c b L xs) :
    ∃ ω : Wd, OKw ω ∧ ω.2.2.2.1 = s.heap.size ∧ ω.2.2.2.2.2.1 = b ∧ ω.2.2.2.2.2.2.1 = L ∧ VF ω s ∧ HF ω (sN 0) (pN 0) (zz ω 0) hI s s.heap ∧ Nd s := by
  obtain ⟨-, -, -, -, -, hts, hX, hbl, -, hgv⟩ := C0
  have hs := flat_of_before _ hgv
  have hA : ∀ a : Nat, a < s.heap.size → ¬ (s.heap.size ≤ a) := fun a h => Nat.not_le.mpr h
  have hst : ∀ i : Nat, ∃ t : Nat, i < 7 → (Term.static (zC i) (zN i) "[I").eval #[Value.ref b] s none [] s = some (.ref t) ∧ va_T .int t (zL i) (fun j => iV ((stl (i + 1)).getD j 0)) (fun q => s.heap.size ≤ q) s s.heap := by
    intro i
    by_cases hi : i < 7
    · obtain ⟨t, h1, h2⟩ := va_Tof (args := #[Value.ref b]) (s := s) (tm := .static (zC i) (zN i) "[I") (ty := .int) (N := zL i) (f := fun j => iV ((stl (i + 1)).getD j 0)) (A := fun q => s.heap.size ≤ q) (m_l31 i hi) (hs _ (m_arr i hi)) (w0_eval (hs _ (m_len i hi))) (fun j hj => w0_eval (hs _ (m_el i hi j hj))) hA
      exact ⟨t, fun _ => ⟨h1, h2⟩⟩
    · exact ⟨0, fun h => absurd h hi⟩
  obtain ⟨adK, adV, hSt, hSe⟩ := vk_Sof (args := #[Value.ref b]) (s := s) (N := 7) (tm := tmS) (len := kLen) (byt := kByt) (A := fun q => s.heap.size ≤ q) m_s7 (fun i hi => hs _ (m_s1 i hi)) (fun i hi => hs _ (m_s2 i hi)) (fun i hi => hs _ (m_s3 i hi)) (fun i hi => hs _ (m_s4 i hi)) (fun i hi j hj => hs _ (m_s5 i hi j hj)) (fun i j hi hj hn => (m_s6 i hi j hj hn).elim (fun h => Or.inl (hs _ h)) (fun h => Or.inr (hs _ h))) hA
  have hcl := cls_known hts
  let zt : Nat → Nat := fun i => Classical.choose (hst i)
  have hzt : ∀ i, i < 7 → _ := fun i hi => Classical.choose_spec (hst i) hi
  let ω1 : Int → Nat := fun a => if a < 10 then zt (a - 1).toNat else if a < 20 then adK (a - 10).toNat else s.heap.size + orA a
  let cC : Nat → ClassId := fun c => Classical.choose (hcl c)
  let iS : Nat → Nat → Nat := fun c => Classical.choose (Classical.choose_spec (hcl c))
  have hcS : ∀ c, _ := fun c => Classical.choose_spec (Classical.choose_spec (hcl c))
  have e1 : ∀ i : Nat, i < 7 → ω1 ((i : Int) + 1) = zt i := by
    intro i hi
    show (if (i : Int) + 1 < 10 then _ else _) = _
    rw [if_pos (by omega)]
    congr 1
    omega
  have e2 : ∀ i : Nat, i < 7 → ω1 (10 + (i : Int)) = adK i := by
    intro i hi
    show (if 10 + (i : Int) < 10 then _ else if 10 + (i : Int) < 20 then _ else _) = _
    rw [if_neg (by omega), if_pos (by omega)]
    congr 1
    omega
  have e3 : ∀ a : Int, 20 ≤ a → ω1 a = s.heap.size + orA a := by
    intro a ha
    show (if a < 10 then _ else if a < 20 then _ else _) = _
    rw [if_neg (by omega), if_neg (by omega)]
  refine ⟨(ω1, cC, iS, s.heap.size, adV, b, L, xs), fun n hn => ?_, rfl, rfl, rfl, ⟨fun c q hq => hcS c q hq, fun i hi => ?_, fun q hq => va_Nw.of rfl (hts _ (m_nw q hq)), va_Nw.of rfl (hts _ m_ca), fun x hx => va_AO.of (hts _ (m_ao x hx))⟩, ⟨fun a ha => ?_, fun a a' h1 h2 h3 _ => ?_, fun a h1 h2 => ?_, fun a h1 => ?_, rfl, ⟨fun i hi => ?_, ⟨fun i hi => ?_, fun i j hi hj h => ?_⟩, ?_, ?_, hX, hbl, ?_, ?_⟩⟩, fun w hw => va_Nw.of (dcl_ot w hw) (hts _ (m_dc w hw))⟩
  · obtain ⟨o1, o2⟩ := orA_ad n hn
    show ω1 (adA n) = s.heap.size + n
    rw [e3 _ o2, o1]
  · show vk_R (kOwn i) (kIx i) (kTx i) (ω1 (10 + (i : Int))) s
    rw [e2 i hi]
    exact vk_R.of (hts _ (m_s8 i hi)) (hSe i hi)
  · obtain ⟨i, hi, rfl, e⟩ := sN0_cases ha
    obtain ⟨-, cell, c1, c2, c3, c4, c5, c6, c7⟩ := hzt i hi
    refine ⟨cell, by show s.heap[ω1 ((i : Int) + 1)]? = _; rw [e1 i hi]; exact c1, c3, fun g => absurd g (by rw [e]; show ¬ (100 : Nat) < 100; decide), fun _ => ?_, fun g => absurd g (by rw [e]; show ¬ 110 ≤ (100 : Nat); decide)⟩
    rw [e]
    refine ⟨c2, c4, c5, fun j hj => ?_⟩
    rw [c6 j hj]
    show some (iV ((stl (i + 1)).getD j 0)) = some (iV (rd hI ((i : Int) + 1) (j : Int)))
    have e4 : rd hI ((i : Int) + 1) (j : Int) = (stl (i + 1)).getD j 0 := by
      unfold rd
      rw [if_pos (by omega)]
      have : ((i : Int) + 1).toNat = i + 1 := by omega
      rw [this, Int.toNat_natCast]
    rw [e4]
  · obtain ⟨i, hi, rfl, e⟩ := sN0_cases h1
    omega
  · obtain ⟨i, hi, rfl, e⟩ := sN0_cases h1
    omega
  · obtain ⟨i, hi, rfl, e⟩ := sN0_cases h1
    omega
  · show va_Z (zC i) (zN i) "[I" (.ref (ω1 ((i : Int) + 1))) (fun q => s.heap.size ≤ q) s s.heap
    rw [e1 i hi]
    exact va_Zof (hts _ (m_lay i hi)) (hts _ (m_ini i hi)) (hzt i hi).1 hA
  · have k := hSt.1 i hi
    show va_O "java/lang/String" (ω1 (10 + (i : Int))) (fun q => s.heap.size ≤ q) s s.heap ∧ va_OF "java/lang/String" "coder" "B" (.int 0) (ω1 (10 + (i : Int))) (fun q => s.heap.size ≤ q) s s.heap ∧ va_OF "java/lang/String" "value" "[B" (.ref (adV i)) (ω1 (10 + (i : Int))) (fun q => s.heap.size ≤ q) s s.heap ∧ _
    rw [e2 i hi]
    exact k
  · refine hSt.2 i j hi hj ?_
    have h' : ω1 (10 + (i : Int)) = ω1 (10 + (j : Int)) := h
    rw [e2 i hi, e2 j hj] at h'
    exact h'
  · exact va_Zof (hts _ m_cs.2.1) (hts _ m_cs.2.2) (w0_eval (hs _ m_cs.1)) hA
  · exact va_Zqof (hts _ m_si.2.1) (hts _ m_si.2.2) (hs _ m_si.1) hA
  · exact vx_Zqof (hts _ m_un.2.1) (hts _ m_un.2.2) (hs _ m_un.1) hA
  · exact vx_Zqof (hts _ m_se.2) (hts _ m_un.2.2) (hs _ m_se.1) hA
/-- the walk of the law's body, out of the pure part -/
theorem whole_from {I : Hp → Prop} (hS : S_all39 I) (hI0 : I hS0) {p : Program} {e : Env} {s : State} {m : MethodId} {below : List Frame} {meth : Method} {c : Code} (l : Launch) (hflags : l.flags = flags0) {b L : Nat} {xs : Nat → Int32} (hL : L ≤ 3072) (C0 : lw_At2 p s m meth c b L xs) : W p l e room_1 s m #[Value.ref b] below meth c s.heap [] 0 0 (lw_Z below #[Value.ref b] s) (entryFrame m ([Value.ref b] : List Value).toArray 7) := by
  obtain ⟨ω, w1, w2, w3, w4, w5, w6, w7⟩ := world_start C0.1
  obtain ⟨⟨q1, q2, q3, q4, q5, q6, q7, q8, q9, q10⟩, n1, n2⟩ := C0
  have K := L_start w1 (by rw [w4]; exact hL) hS hI0
  rw [w3] at K
  have K2 : W p l e room_1 s m #[Value.ref b] below meth c s.heap [] 0 0 (PQL ω below #[Value.ref b] s) (entryFrame m ([Value.ref b] : List Value).toArray 7) := by
    rw [lg_entry_eq]
    refine K p l e room_1 s m _ below meth c s.heap [] _ ⟨⟨q1, q2, q3, q4, q5, fun w hw => q6 w (List.mem_filter.mp hw).1, q9, n1, n2⟩, ⟨by decide, by decide, by decide, by decide, hflags⟩, w5, w6, ?_, va_S.rf⟩
    exact lv_entry [Value.ref b] (Nat.le_of_ble_eq_true rfl)
  intro T hT X
  obtain ⟨t, a, hq⟩ := K2 T hT X
  exact ⟨t, a, hq ⟨w2.symm, by rw [w3], w7⟩⟩
end World0
