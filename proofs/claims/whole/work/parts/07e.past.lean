section Past
theorem wo_Ps : Cond.methodLink RX4 3 objectInit ∈ WS := WS_of (w := Cond.methodLink RX4 3 objectInit) (List.mem_append_right _ (List.mem_append_left _ (List.mem_of_getElem? (i := 145) (by decide +kernel)))) (by decide +kernel)
theorem kr_Ps_11 : Cond.classLink RX4 11 "CompanyCourt$State" ∈ WS := WS_of (w := Cond.classLink RX4 11 "CompanyCourt$State") (List.mem_append_right _ (List.mem_append_left _ (List.mem_of_getElem? (i := 146) (by decide +kernel)))) (by decide +kernel)
theorem kf_Ps_13 : FL RX4 13 4 0 := ⟨(RX4, TX4, 3), rfl, by decide, WS_of (w := Cond.fieldLink RX4 13 (TX4 0).1 (TX4 0).2.1 (TX4 0).2.2.1) (List.mem_append_right _ (List.mem_append_left _ (List.mem_of_getElem? (i := 148) (by decide +kernel)))) (by decide +kernel)⟩
theorem kf_Ps_17 : FL RX4 17 4 1 := ⟨(RX4, TX4, 3), rfl, by decide, WS_of (w := Cond.fieldLink RX4 17 (TX4 1).1 (TX4 1).2.1 (TX4 1).2.2.1) (List.mem_append_right _ (List.mem_append_left _ (List.mem_of_getElem? (i := 149) (by decide +kernel)))) (by decide +kernel)⟩
theorem kf_Ps_21 : FL RX4 21 4 2 := ⟨(RX4, TX4, 3), rfl, by decide, WS_of (w := Cond.fieldLink RX4 21 (TX4 2).1 (TX4 2).2.1 (TX4 2).2.2.1) (List.mem_append_right _ (List.mem_append_left _ (List.mem_of_getElem? (i := 150) (by decide +kernel)))) (by decide +kernel)⟩
theorem kn_Ps_11 : NL RX4 11 7 := ⟨(RX7, TX7, 11), rfl, WS_of (w := Cond.classLink RX4 11 RX7) (List.mem_append_right _ (List.mem_append_left _ (List.mem_of_getElem? (i := 146) (by decide +kernel)))) (by decide +kernel), WS_of (w := Cond.instantiable RX7 11) (List.mem_append_right _ (List.mem_append_left _ (List.mem_of_getElem? (i := 88) (by decide +kernel)))) (by decide +kernel), WS_of (w := Cond.initialized RX7) (List.mem_append_right _ (List.mem_append_left _ (List.mem_of_getElem? (i := 4) (by decide +kernel)))) (by decide +kernel)⟩
theorem kl_Ps_24 : ML RX4 24 yX7_init := Or.inr ⟨"CompanyCourt", by decide +kernel⟩
theorem dX4_init_0 : decode cX4_init 0 = .ok (.aload_n 0, 1) := by decide +kernel
theorem dX4_init_1 : decode cX4_init 1 = .ok (.invokespecial 3, 3) := by decide +kernel
theorem dX4_init_4 : decode cX4_init 4 = .ok (.aload_n 0, 1) := by decide +kernel
theorem dX4_init_5 : decode cX4_init 5 = .ok (.bipush 41, 2) := by decide +kernel
theorem dX4_init_7 : decode cX4_init 7 = .ok (.anewarray 11, 3) := by decide +kernel
theorem dX4_init_10 : decode cX4_init 10 = .ok (.putfield 13, 3) := by decide +kernel
theorem dX4_init_13 : decode cX4_init 13 = .ok (.aload_n 0, 1) := by decide +kernel
theorem dX4_init_14 : decode cX4_init 14 = .ok (.iconst 0, 1) := by decide +kernel
theorem dX4_init_15 : decode cX4_init 15 = .ok (.putfield 17, 3) := by decide +kernel
theorem dX4_init_18 : decode cX4_init 18 = .ok (.aload_n 0, 1) := by decide +kernel
theorem dX4_init_19 : decode cX4_init 19 = .ok (.iconst 0, 1) := by decide +kernel
theorem dX4_init_20 : decode cX4_init 20 = .ok (.putfield 21, 3) := by decide +kernel
theorem dX4_init_23 : decode cX4_init 23 = .ok (.iconst 0, 1) := by decide +kernel
theorem dX4_init_24 : decode cX4_init 24 = .ok (.istore_n 1, 1) := by decide +kernel
theorem dX4_init_25 : decode cX4_init 25 = .ok (.iload_n 1, 1) := by decide +kernel
theorem dX4_init_26 : decode cX4_init 26 = .ok (.aload_n 0, 1) := by decide +kernel
theorem dX4_init_27 : decode cX4_init 27 = .ok (.getfield 13, 3) := by decide +kernel
theorem dX4_init_30 : decode cX4_init 30 = .ok (.arraylength, 1) := by decide +kernel
theorem dX4_init_31 : decode cX4_init 31 = .ok (.if_icmp .ge 22, 3) := by decide +kernel
theorem dX4_init_34 : decode cX4_init 34 = .ok (.aload_n 0, 1) := by decide +kernel
theorem dX4_init_35 : decode cX4_init 35 = .ok (.getfield 13, 3) := by decide +kernel
theorem dX4_init_38 : decode cX4_init 38 = .ok (.iload_n 1, 1) := by decide +kernel
theorem dX4_init_39 : decode cX4_init 39 = .ok (.new 11, 3) := by decide +kernel
theorem dX4_init_42 : decode cX4_init 42 = .ok (.dup, 1) := by decide +kernel
theorem dX4_init_43 : decode cX4_init 43 = .ok (.invokespecial 24, 3) := by decide +kernel
theorem dX4_init_46 : decode cX4_init 46 = .ok (.aastore, 1) := by decide +kernel
theorem dX4_init_47 : decode cX4_init 47 = .ok (.iinc 1 1, 3) := by decide +kernel
theorem dX4_init_50 : decode cX4_init 50 = .ok (.goto (-25), 3) := by decide +kernel
theorem dX4_init_53 : decode cX4_init 53 = .ok (.return_, 1) := by decide +kernel
def N_Ps_init : Mt := (yX4_init, cX4_init, 2, none)
theorem mt_Ps_init : MT N_Ps_init 0 := ⟨WS_of (w := Cond.code yX4_init cX4_init 2 none) (List.mem_append_right _ (List.mem_append_left _ (List.mem_of_getElem? (i := 144) (by decide +kernel)))) (by decide +kernel), WS_of (w := Cond.initialized RX4) (List.mem_append_right _ (List.mem_append_left _ (List.mem_of_getElem? (i := 5) (by decide +kernel)))) (by decide +kernel), ⟨by decide, by decide, by decide +kernel⟩, by decide⟩
theorem st_Ps_init : Cond.instanceMethod N_Ps_init.1 ∈ WS ∧ N_Ps_init.1.name = "<init>" := ⟨WS_of (w := Cond.instanceMethod yX4_init) (List.mem_append_right _ (List.mem_append_left _ (List.mem_of_getElem? (i := 143) (by decide +kernel)))) (by decide +kernel), rfl⟩
/-- a State just made -/
theorem fresh_St {ω : Wd} {pt : Ptr} {h : Hp} {a : Int} (h1 : ∀ k : Nat, k < 4 → pt a k = -1) (h2 : ∀ j, h a j = 0) : ∀ q, vwCl[7]? = some q → q.2.2 = 11 ∧ ∀ k : Nat, k < 11 → fV ω pt h (fkd 7 k) a k = defaultValue (tyf 7 k) := by
  intro q hq
  cases hq
  refine ⟨rfl, fun k hk => ?_⟩
  have : k = 0 ∨ k = 1 ∨ k = 2 ∨ k = 3 ∨ k = 4 ∨ k = 5 ∨ k = 6 ∨ k = 7 ∨ k = 8 ∨ k = 9 ∨ k = 10 := by omega
  rcases this with rfl | rfl | rfl | rfl | rfl | rfl | rfl | rfl | rfl | rfl | rfl
  · show aV ω (pt a (0 : Nat)) = .null; rw [h1 0 (by decide)]; rfl
  · show aV ω (pt a (1 : Nat)) = .null; rw [h1 1 (by decide)]; rfl
  · show aV ω (pt a (2 : Nat)) = .null; rw [h1 2 (by decide)]; rfl
  · show aV ω (pt a (3 : Nat)) = .null; rw [h1 3 (by decide)]; rfl
  all_goals (show iV (h a _) = _; rw [h2]; rfl)
def dF_St (n t : Nat) (x : Int) : Decidable (F_St n t x) := by
  repeat' (first | (refine @instDecidableAnd _ _ ?_ ?_) | infer_instance)
theorem F_St_all {f g : Nat → Nat} {e : Nat → Int} {N : Nat} (h : (List.range N).all (fun j => @decide _ (dF_St (f j) (g j) (e j))) = true) (j : Nat) (hj : j < N) : F_St (f j) (g j) (e j) := @of_decide_eq_true _ (dF_St (f j) (g j) (e j)) (List.all_eq_true.mp h j (List.mem_range.mpr hj))
theorem f_Ps0 (j : Nat) (hj : j < 41) : F_St (32 + 5 * j) (27 + 5 * j) (200 + 10 * (j : Int)) := F_St_all (f := fun j => 32 + 5 * j) (g := fun j => 27 + 5 * j) (e := fun j => 200 + 10 * (j : Int)) (by decide +kernel) j hj
theorem f_Ps : ∀ j : Nat, j < 41 → adA (31 + 5 * j) = 200 + 10 * (j : Int) ∧ SH (200 + 10 * (j : Int)) = (7, 0) ∧ asA (27 + 5 * j + 4) = (56, (j : Int)) ∧ PT 56 j = 200 + 10 * (j : Int) ∧ (∀ k : Nat, k < 4 → 27 + 5 * j ≤ tmA (200 + 10 * (j : Int)) k) ∧ orA (200 + 10 * (j : Int)) < 32 + 5 * j ∧ adA (orA (200 + 10 * (j : Int))) = 200 + 10 * (j : Int) := by decide +kernel
theorem sN_56 (n : Nat) (h : 30 < n) : sN n 56 = (112, 41) := by rw [sN_is 56 (by rw [show orA 56 = 30 from by decide +kernel]; exact h) (by decide +kernel)]; decide +kernel
theorem sN_55 (n : Nat) (h : 29 < n) : sN n 55 = (4, 0) := by rw [sN_is 55 (by rw [show orA 55 = 29 from by decide +kernel]; exact h) (by decide +kernel)]; decide +kernel
theorem pN_55 (t : Nat) (h : 26 < t) : pN t 55 0 = 56 := by rw [pN_is 55 0 (by rw [show tmA 55 0 = 26 from by decide +kernel]; exact h) (by decide +kernel)]; decide +kernel
theorem lt_ge {x y : Int} {α : Prop} (hA : (some true : Option Bool) = if x < y then some true else some false) : x < y := by
  by_cases h : x < y
  · exact h
  · rw [if_neg h] at hA; cases hA
theorem ge_lt {x y : Int} (hA : (some false : Option Bool) = if x < y then some true else some false) : ¬ x < y := by
  intro h
  rw [if_pos h] at hA; cases hA
theorem w32_nat {j : Nat} (h : j < 100000) : w32 (j : Int) = j := by unfold w32; omega
theorem L_Ps {ω : Wd} {h : Hp} (hω : OKw ω) (hz : ∀ b : Int, 200 ≤ b → b < 610 → ∀ j, h b j = 0) : ∀ (f j : Nat), j + f = 41 → Ev ω N_Ps_init 2 (PQm ω (QK ω 236 232 h) 206 2706) 206 2706 (1 + 5 * j) (41 + 65 * j) (sN (31 + 5 * j)) (pN (27 + 5 * j)) (zz ω (31 + 5 * j)) h 25 [some (aV ω 55), some (iV j)] [] := by
  intro f
  induction f with
  | zero =>
    intro j hj
    obtain rfl : j = 41 := by omega
    refine ev_iload_n (pc := 25) (i := 1) dX4_init_25 rfl rfl ?_
    refine ev_aload_n (pc := 26) (i := 0) dX4_init_26 rfl rfl ?_
    refine ev_get (pc := 27) (c9 := 4) (k9 := 0) (v := aV ω 56) dX4_init_27 kf_Ps_13 (by decide) (by rw [sN_55 _ (by decide)]) (show aV ω (pN _ 55 0) = _ from by rw [pN_55 _ (by decide)]) ?_
    refine ev_alen (pc := 30) dX4_init_30 (by rw [sN_56 _ (by decide)]; decide) ?_
    rw [sN_56 _ (by decide)]
    refine ev_icmp_ge (pc := 31) (tgt := 53) (A := some true) (B := some false) dX4_init_31 rfl rfl rfl (fun hA => absurd (lt_ge (α := True) hA) (by decide)) (fun hA => ?_)
    exact ev_vret (pc := 53) dX4_init_53 rfl (by decide) (by decide) ⟨rfl, rfl, rfl, rfl, rfl⟩
  | succ f ih =>
    intro j hj
    have hj41 : j < 41 := by omega
    have F := f_Ps0 j hj41
    obtain ⟨f1, f2, f3, f4, f5, f6, f7⟩ := f_Ps j hj41
    have hs2 : ∀ n, 32 + 5 * j ≤ n → sN n (200 + 10 * (j : Int)) = (7, 0) := fun n hn => by rw [sN_is _ (Nat.lt_of_lt_of_le f6 hn) f7, f2]
    refine ev_iload_n (pc := 25) (i := 1) dX4_init_25 rfl rfl ?_
    refine ev_aload_n (pc := 26) (i := 0) dX4_init_26 rfl rfl ?_
    refine ev_get (pc := 27) (c9 := 4) (k9 := 0) (v := aV ω 56) dX4_init_27 kf_Ps_13 (by decide) (by rw [sN_55 _ (by omega)]) (show aV ω (pN _ 55 0) = _ from by rw [pN_55 _ (by omega)]) ?_
    refine ev_alen (pc := 30) dX4_init_30 (by rw [sN_56 _ (by omega)]; decide) ?_
    rw [sN_56 _ (by omega)]
    refine ev_icmp_ge (pc := 31) (tgt := 53) (A := some true) (B := some false) dX4_init_31 rfl rfl rfl (fun hA => ?_) (fun hA => absurd (show w32 (j : Int) < w32 (41 : Nat) from by rw [w32_nat (by omega), w32_nat (by omega)]; omega) (ge_lt hA))
    refine ev_aload_n (pc := 34) (i := 0) dX4_init_34 rfl rfl ?_
    refine ev_get (pc := 35) (c9 := 4) (k9 := 0) (v := aV ω 56) dX4_init_35 kf_Ps_13 (by decide) (by rw [sN_55 _ (by omega)]) (show aV ω (pN _ 55 0) = _ from by rw [pN_55 _ (by omega)]) ?_
    refine ev_iload_n (pc := 38) (i := 1) dX4_init_38 rfl rfl ?_
    refine ev_new (pc := 39) (n := 31 + 5 * j) (c9 := 7) (N9 := 11) (a := 200 + 10 * (j : Int)) hω (by omega) f1 dX4_init_39 kn_Ps_11 (by rw [f2]) (by decide) (fresh_St (fun k hk => pN_no _ (by omega) _ _ (f5 k hk)) (fun i => hz _ (by omega) (by omega) i)) (by omega) (by omega) ?_
    refine ev_dup (pc := 42) dX4_init_42 (cat_aV _ _) ?_
    refine ev_callI (pc := 43) (N := N_St_init) (As := []) (n := 0) (c9 := 7) (a := 200 + 10 * (j : Int)) (d' := 1) (mc' := 4) (ms' := 54) (K_St hω (show F_St (31 + 5 * j + 1) (27 + 5 * j) _ from by rw [show 31 + 5 * j + 1 = 32 + 5 * j from by omega]; exact F) (fun b h1 h2 i => hz b (by omega) (by omega) i)) dX4_init_43 mt_St_init rfl st_St_init kl_Ps_24 (by decide) (by rw [hs2 _ (by omega)]) (by decide) rfl (by simp only [List.map, cat_aV, cat_iV, List.sum_cons, List.sum_nil]; decide) (by omega) (by omega) ?_
    rintro v sh' pt' z' h' ⟨rfl, rfl, rfl, rfl, rfl⟩
    refine ev_aast (pc := 46) (t := 27 + 5 * j + 4) (a := 56) (i := j) (c9 := 7) (q9 := (RX7, TX7, 11)) f3 f4 dX4_init_46 (by rw [sN_56 _ (by omega)]; decide) (by decide) (by rw [sN_56 _ (by omega)]; exact hj41) (by rw [sN_56 _ (by omega)]; decide) (by decide) (by rw [hs2 _ (by omega)]) rfl (by rw [sN_56 _ (by omega)]; rfl) ?_
    refine ev_iinc (pc := 47) (i := 1) dX4_init_47 rfl (lnl_v (cat_aV _ _) rfl) (by decide) ?_
    refine ev_goto (pc := 50) (tgt := 25) dX4_init_50 rfl ?_
    have := ih (j + 1) (by omega)
    rw [show 31 + 5 * (j + 1) = 31 + 5 * j + 1 + 4 from by omega, show 27 + 5 * (j + 1) = 27 + 5 * j + 4 + 1 from by omega, show 1 + 5 * (j + 1) = 1 + 5 * j + 1 + 4 from by omega, show 41 + 65 * (j + 1) = 41 + 65 * j + 11 + 54 from by omega, show ((j + 1 : Nat) : Int) = (j : Int) + 1 from by omega] at this
    exact this
theorem K_Ps {ω : Wd} {h : Hp} (hω : OKw ω) (hz : ∀ b : Int, 200 ≤ b → b < 610 → ∀ j, h b j = 0) (h5 : ∀ j, h 55 j = 0) : Ct ω N_Ps_init 2 [aV ω 55] (sN 30) (pN 26) (zz ω 30) h 206 2706 (QK ω 236 232 h) := by
  refine Ct_of (lv := [some (aV ω 55), none]) (by decide) (Nat.le_trans (sl_1 (cat_aV _ _) sl_z) (Nat.le_of_ble_eq_true rfl)) (la_1 (cat_aV _ _) (by rfl)) ?_
  refine ev_aload_n (pc := 0) (i := 0) dX4_init_0 rfl rfl ?_
  refine ev_objInit (pc := 1) dX4_init_1 wo_Ps wo_i wo_c (by decide) (by decide) (by decide) ?_
  refine ev_aload_n (pc := 4) (i := 0) dX4_init_4 rfl rfl ?_
  refine ev_bipush (pc := 5) dX4_init_5 (by decide) ?_
  refine ev_newrefs (pc := 7) (n := 30) (a := 56) hω (by decide) (by decide +kernel) dX4_init_7 kr_Ps_11 (by decide) (by decide +kernel) (by decide +kernel) (by decide +kernel) (by decide +kernel) (by decide) (by decide +kernel) (by
    intro j hj
    have hj : j < 41 := hj
    exact pN_no 26 (by decide) 56 j (by have := (by decide +kernel : ∀ j : Nat, j < 41 → 26 ≤ tmA 56 (j : Int)) j hj; exact this)) ?_
  rw [show SH 56 = (112, 41) from by decide +kernel]
  refine ev_putF (pc := 10) (t := 26) (c9 := 4) (k9 := 0) (a := 55) (b := 56) (by decide +kernel) (by decide +kernel) dX4_init_10 kf_Ps_13 (by decide) (by rw [sN_55 _ (by decide)]) (by decide) (fun q hq => by cases hq; exact ⟨rfl, rfl⟩) rfl rfl rfl ?_
  refine ev_aload_n (pc := 13) (i := 0) dX4_init_13 rfl rfl ?_
  refine ev_iconst (pc := 14) dX4_init_14 ?_
  refine ev_putS (pc := 15) (c9 := 4) (k9 := 1) (x := 0) dX4_init_15 kf_Ps_17 (by decide) (by rw [sN_55 _ (by decide)]) (by decide) (fun q hq => by cases hq; rfl) (Or.inl rfl) rfl (h5 _) ?_
  refine ev_aload_n (pc := 18) (i := 0) dX4_init_18 rfl rfl ?_
  refine ev_iconst (pc := 19) dX4_init_19 ?_
  refine ev_putS (pc := 20) (c9 := 4) (k9 := 2) (x := 0) dX4_init_20 kf_Ps_21 (by decide) (by rw [sN_55 _ (by decide)]) (by decide) (fun q hq => by cases hq; rfl) (Or.inl rfl) rfl (h5 _) ?_
  refine ev_iconst (pc := 23) dX4_init_23 ?_
  refine ev_istore_n (pc := 24) (i := 1) dX4_init_24 rfl (lnl_v (cat_aV _ _) rfl) (by decide) ?_
  exact L_Ps hω hz 41 0 (by decide)
end Past
