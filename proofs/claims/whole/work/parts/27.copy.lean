section PureI
/-! copies of states; rows of whom each sits with; all that is owed -/
def CoA (h : Hp) (n : Nat) : Prop := (h 20 1 = 30 ∨ h 20 1 = 40) ∧ h (h 20 1) 4 = (n : Int) ∧ n ≤ 6
theorem SH30 : SH 30 = (0, 0) := by decide +kernel
theorem SH40 : SH 40 = (0, 0) := by decide +kernel
theorem SH52 : SH 52 = (112, 7) := by decide +kernel
theorem SH20' : SH 20 = (9, 0) := by decide +kernel
theorem CoA.sh {h : Hp} {n : Nat} (A : CoA h n) : SH (h 20 1) = (0, 0) := by
  rcases A.1 with e | e <;> rw [e]
  · exact SH30
  · exact SH40
section M
variable {h : Hp} {s t w : Int} {n : Nat} {f seat : Int → Int}
theorem Cc_isTold_e (C : CoA h n) : Cc_isTold h 20 = some (if 0 < n then 1 else 0, h) := by
  obtain ⟨c1, c2, c3⟩ := id C
  unfold Cc_isTold
  rw [cC_s SH20' rfl, cC_s C.sh rfl, c2, w32_n (by omega) (by omega)]
  by_cases q : 0 < n
  · rw [if_pos (by omega), if_pos q]
  · rw [if_neg (by omega), if_neg q]
theorem Cc_apartAt_e (h : Hp) {i : Int} (i0 : 0 ≤ i) (i1 : i < 7) : Cc_apartAt h 20 i = some (130 + 10 * i, h) := by
  unfold Cc_apartAt
  have e7 : w32 ((7 : Nat) : Int) = 7 := by decide
  rw [w32_n i0 (by omega), if_neg (by omega), cC_s SH20' rfl, cN_s SH52 (by decide) (by decide), SH52, e7, if_pos i1, cX_s SH52 i0 i1 (by decide)]
  have e : PT 52 i = 130 + 10 * i := by
    unfold PT
    rw [if_neg (by decide), if_neg (by decide), if_neg (by decide), if_pos rfl]
  rw [e]
  unfold Cc_apartAt_b23
  rw [if_neg (by omega)]
theorem IsS_apart {i : Int} (i0 : 0 ≤ i) (i1 : i < 7) : IsS (130 + 10 * i) := ⟨by omega, by omega, by omega⟩
theorem cR_eq {h' : Hp} (h4 : h' s 4 = h t 4) (h5 : h' s 5 = h t 5) (h6 : h' s 6 = h t 6) (h7 : h' s 7 = h t 7) (h8 : h' s 8 = h t 8) (r1 : ∀ k : Int, 0 ≤ k → k < 36 → h' (s + 1) k = h (t + 1) k) (r2 : ∀ k : Int, 0 ≤ k → k < 6 → h' (s + 2) k = h (t + 2) k) (r3 : ∀ k : Int, 0 ≤ k → k < 6 → h' (s + 3) k = h (t + 3) k) : cR h' s = cR h t := by
  funext k
  unfold cR
  rw [h4, h5, h6, h7, h8]
  by_cases a1 : k < 0
  · rw [if_pos a1, if_pos a1]
  · rw [if_neg a1, if_neg a1]
    by_cases a2 : k < 36
    · rw [if_pos a2, if_pos a2, r1 k (by omega) a2]
    · rw [if_neg a2, if_neg a2]
      by_cases a3 : k < 48
      · rw [if_pos a3, if_pos a3, r2 _ (by omega) (by omega), r3 _ (by omega) (by omega)]
      · rw [if_neg a3, if_neg a3]
theorem St_copy_e (i : IsS s) (A : StA h t n f) (hst : s ≠ t) : ∃ h', St_copy h s t = some (0, h') ∧ Fr (fun x => x = s ∨ x = s + 1 ∨ x = s + 2 ∨ x = s + 3) h h' ∧ StA h' s n f := by
  obtain ⟨s0, s1, s2, s3, s4⟩ := IsS_sh i
  obtain ⟨t0, t1, t2, t3, t4⟩ := IsS_sh A.1
  obtain ⟨i1, i2, i3⟩ := id i
  obtain ⟨j1, j2, j3⟩ := id A.1
  have ap : ∀ x : Int, t ≤ x → x < t + 5 → x ≠ s ∧ x ≠ s + 1 ∧ x ≠ s + 2 ∧ x ≠ s + 3 := fun x x0 x1 => by omega
  have W : wp (St_copy h s t) (fun r h' => r = 0 ∧ Fr (fun x => x = s ∨ x = s + 1 ∨ x = s + 2 ∨ x = s + 3) h h' ∧ (h' s 4 = h t 4 ∧ h' s 5 = h t 5 ∧ h' s 6 = h t 6 ∧ h' s 7 = h t 7 ∧ h' s 8 = h t 8) ∧ (∀ k : Int, 0 ≤ k → k < 36 → h' (s + 1) k = h (t + 1) k) ∧ ∀ k : Int, 0 ≤ k → k < 6 → h' (s + 2) k = h (t + 2) k ∧ h' (s + 3) k = h (t + 3) k) := by
    unfold St_copy
    rw [cC_s t0 rfl, cC_s s0 rfl, pu_s, pu_s, pu_s, pu_s, pu_s]
    have n5 : ∀ (g : Hp) (v : Int) (k : Int), up g s k v t = g t := fun g v k => up_off_row (Ne.symm hst)
    simp only [n5]
    generalize hh : up (up (up (up (up h s 4 (h t 4)) s 5 (h t 5)) s 6 (h t 6)) s 7 (h t 7)) s 8 (h t 8) = h1
    have F1 : Fr (fun x => x = s ∨ x = s + 1 ∨ x = s + 2 ∨ x = s + 3) h h1 := fun x hx => by
      have hx' : x ≠ s := fun q => hx (Or.inl q)
      rw [← hh, up_off_row hx', up_off_row hx', up_off_row hx', up_off_row hx', up_off_row hx']
    have q4 : h1 s 4 = h t 4 ∧ h1 s 5 = h t 5 ∧ h1 s 6 = h t 6 ∧ h1 s 7 = h t 7 ∧ h1 s 8 = h t 8 := by
      refine ⟨?_, ?_, ?_, ?_, ?_⟩
      · rw [← hh, up_off (by decide), up_off (by decide), up_off (by decide), up_off (by decide), up_at]
      · rw [← hh, up_off (by decide), up_off (by decide), up_off (by decide), up_at]
      · rw [← hh, up_off (by decide), up_off (by decide), up_at]
      · rw [← hh, up_off (by decide), up_at]
      · rw [← hh, up_at]
    unfold St_copy_b42
    refine itr_wp (fun k σ => ∃ h2, σ = (h2, s, t, (k : Int)) ∧ Fr (fun x => x = s ∨ x = s + 1 ∨ x = s + 2 ∨ x = s + 3) h h2 ∧ h2 s = h1 s ∧ ∀ j : Int, 0 ≤ j → j < k → h2 (s + 1) j = h (t + 1) j) 36 ?_ ?_ (FU_gt (by decide)) ⟨h1, rfl, F1, rfl, fun j j0 j1 => absurd j1 (by omega)⟩
    · rintro k σ kk hk ⟨h2, rfl, F2, z2, T2⟩ K
      show wp (St_copy_b42_body kk h2 s t (k : Int)) _
      unfold St_copy_b42_body
      have e36 : w32 ((36 : Nat) : Int) = 36 := by decide
      rw [cC_s s0 rfl, cN_s s1 (by decide) (by decide), s1, e36, w32_n (x := (k : Int)) (by omega) (by omega), if_pos (by omega), cC_s t0 rfl, at_eq t1 (by omega) (by omega) (by omega) (by decide), cl_s, put_eq s1 (by omega) (by omega) (by omega) (by decide), cl_s]
      have et : h2 (t + 1) = h (t + 1) := F2 _ (fun q => by have := ap (t + 1) (by omega) (by omega); omega)
      refine K _ ⟨_, rfl, F2.tr (Fr.up (Or.inr (Or.inl rfl))), by rw [up_off_row (by omega)]; exact z2, fun j j0 j1 => ?_⟩
      rw [et, up_row]
      by_cases e : j = (k : Int)
      · rw [e, ud_at]
      · rw [ud_ne e]; exact T2 j j0 (by omega)
    · rintro σ kk ⟨h2, rfl, F2, z2, T2⟩
      show wp (St_copy_b42_body kk h2 s t ((36 : Nat) : Int)) _
      unfold St_copy_b42_body
      rw [cC_s s0 rfl, cN_s s1 (by decide) (by decide), s1, if_neg (Int.lt_irrefl _)]
      unfold St_copy_b75
      refine itr_wp (fun k σ => ∃ h3, σ = (h3, s, t, (k : Int)) ∧ Fr (fun x => x = s ∨ x = s + 1 ∨ x = s + 2 ∨ x = s + 3) h h3 ∧ h3 s = h1 s ∧ (∀ j : Int, 0 ≤ j → j < 36 → h3 (s + 1) j = h (t + 1) j) ∧ ∀ j : Int, 0 ≤ j → j < k → h3 (s + 2) j = h (t + 2) j ∧ h3 (s + 3) j = h (t + 3) j) 6 ?_ ?_ (FU_gt (by decide)) ⟨h2, rfl, F2, z2, fun j j0 j1 => T2 j j0 (by omega), fun j j0 j1 => absurd j1 (by omega)⟩
      · rintro k σ kk hk ⟨h3, rfl, F3, z3, T3, U3⟩ K
        show wp (St_copy_b75_body kk h3 s t (k : Int)) _
        unfold St_copy_b75_body
        have et2 : h3 (t + 2) = h (t + 2) := F3 _ (fun q => by have := ap (t + 2) (by omega) (by omega); omega)
        have et3 : up h3 (s + 2) (k : Int) (h3 (t + 2) (k : Int)) (t + 3) = h (t + 3) := by
          have := ap (t + 3) (by omega) (by omega)
          rw [up_off_row (by omega), F3 _ (by omega)]
        rw [w32_n (x := (k : Int)) (by omega) (by omega), if_pos (by omega), cC_s s0 rfl, cC_s t0 rfl, at_eq t2 (by omega) (by omega) (by omega) (by decide), cl_s, put_eq s2 (by omega) (by omega) (by omega) (by decide), cl_s, at_eq t3 (by omega) (by omega) (by omega) (by decide), cl_s, put_eq s3 (by omega) (by omega) (by omega) (by decide), cl_s, et3, et2]
        refine K _ ⟨_, rfl, F3.tr ((Fr.up (Or.inr (Or.inr (Or.inl rfl)))).tr (Fr.up (Or.inr (Or.inr (Or.inr rfl))))), by rw [up_off_row (by omega), up_off_row (by omega)]; exact z3, fun j j0 j1 => by rw [up_off_row (by omega), up_off_row (by omega)]; exact T3 j j0 j1, fun j j0 j1 => ?_⟩
        rw [up_row, up_off_row (b := s + 3) (a := s + 2) (by omega), up_off_row (b := s + 2) (a := s + 3) (by omega), up_row]
        by_cases e : j = (k : Int)
        · rw [e, ud_at, ud_at]; exact ⟨rfl, rfl⟩
        · rw [ud_ne e, ud_ne e]; exact U3 j j0 (by omega)
      · rintro σ kk ⟨h3, rfl, F3, z3, T3, U3⟩
        show wp (St_copy_b75_body kk h3 s t ((6 : Nat) : Int)) _
        unfold St_copy_b75_body
        rw [if_neg (by decide)]
        exact wp_i ⟨rfl, F3, by rw [z3]; exact q4, T3, U3⟩
  obtain ⟨r, h', e, rfl, F, ⟨q4, q5, q6, q7, q8⟩, r1, r2⟩ := W
  exact ⟨h', e, F, i, by rw [q4]; exact A.2.1, by rw [cR_eq q4 q5 q6 q7 q8 r1 (fun k a b => (r2 k a b).1) (fun k a b => (r2 k a b).2)]; exact A.2.2.1, A.2.2.2⟩
theorem Cc_copyApart_e (A : StA h 110 n f) : ∃ h', Cc_copyApart h 20 = some (130, h') ∧ Fr (fun x => x = 130 ∨ x = 131 ∨ x = 132 ∨ x = 133) h h' ∧ StA h' 130 n f := by
  obtain ⟨h', e, F, B⟩ := St_copy_e (s := 130) ⟨by decide, by decide, by decide⟩ A (by decide)
  refine ⟨h', ?_, F, B⟩
  unfold Cc_copyApart
  rw [cC_s SH20' rfl, Cc_apartAt_e h (by decide) (by decide), cl_s]
  show cC 7 130 (cl (St_copy h 130 110) _) = _
  rw [cC_s (IsS_sh B.1).1 rfl, e, cl_s]
  rfl
/-- the row of whom each sits with -/
def rowN (n : Nat) (seat : Int → Int) : Int := fo (fun p acc => acc * 10 + seat (p : Int)) n 0
theorem Cc_rowOf_e (i : IsS s) (hn : n ≤ 6) (T : SeatAt h s seat) : Cc_rowOf h (s + 4) (n : Int) = some (rowN n seat, h) := by
  obtain ⟨s0, s1, s2, s3, s4⟩ := IsS_sh i
  have i1 := i.1
  unfold Cc_rowOf Cc_rowOf_b4
  refine itr_run (fun p : Nat => (h, s + 4, (n : Int), fo (fun p acc => acc * 10 + seat (p : Int)) p 0, (p : Int))) (n := n) ?_ ?_ (FU_gt (by omega))
  · intro p hp k
    show Cc_rowOf_b4_body k h (s + 4) (n : Int) (fo (fun p acc => acc * 10 + seat (p : Int)) p 0) (p : Int) = _
    unfold Cc_rowOf_b4_body
    rw [w32_n (x := (p : Int)) (by omega) (by omega), w32_n (x := (n : Int)) (by omega) (by omega), if_pos (by omega), at_eq s4 (by omega) (by omega) (by omega) (by decide), cl_s, bd_s, T (p : Int) (by omega) (by omega)]
    rfl
  · intro k
    show Cc_rowOf_b4_body k h (s + 4) (n : Int) (rowN n seat) (n : Int) = _
    unfold Cc_rowOf_b4_body
    rw [if_neg (Int.lt_irrefl _)]
theorem Md_rowOf_e (hn : n ≤ 6) (h26 : h 2000 26 = (n : Int)) (K : SeatOK n seat) (T : WithAt h seat) : Md_rowOf h 2000 = some (rowN n seat, h) := by
  unfold Md_rowOf Md_rowOf_b4
  refine itr_run (fun p : Nat => (h, 2000, fo (fun p acc => acc * 10 + seat (p : Int)) p 0, (p : Int))) (n := n) ?_ ?_ (FU_gt (by omega))
  · intro p hp k
    show Md_rowOf_b4_body k h 2000 (fo (fun p acc => acc * 10 + seat (p : Int)) p 0) (p : Int) = k (h, 2000, fo (fun p acc => acc * 10 + seat (p : Int)) p 0 * 10 + seat (p : Int), (p : Int) + 1)
    generalize fo (fun p acc => acc * 10 + seat (p : Int)) p 0 = acc
    have Ww := with_w T K hn (k := (p : Int)) (by omega) (by omega)
    unfold Md_rowOf_b4_body
    rw [cC_s SH2000' rfl, h26, w32_n (x := (p : Int)) (by omega) (by omega), w32_n (x := (n : Int)) (by omega) (by omega), if_pos (by omega), cX_s SH2038 (by omega) (by omega) (by decide), rd_ge (by decide), Int.mul_comm acc 10]
    by_cases c : seat (p : Int) = 9
    · rw [if_pos (Ww.mpr c), bd_s, c]
    · rw [if_neg (fun q => c (Ww.mp q)), cX_s SH2038 (by omega) (by omega) (by decide), bd_s, T (p : Int) (by omega) (by omega), if_neg c]
  · intro k
    show Md_rowOf_b4_body k h 2000 (rowN n seat) (n : Int) = _
    unfold Md_rowOf_b4_body
    rw [cC_s SH2000' rfl, h26, if_neg (Int.lt_irrefl _)]
theorem Cc_holds_e (h : Hp) (g i : Int) : Cc_holds h g i = some (if w32 (iand (ishr g i) 1) = 1 then 1 else 0, h) := by
  unfold Cc_holds
  by_cases c : w32 (iand (ishr g i) 1) = 1
  · rw [if_pos c, if_pos c]
  · rw [if_neg c, if_neg c]
/-- what is owed within a group -/
def hb (g : Int) (i : Nat) : Prop := w32 (iand (ishr g (i : Int)) 1) = 1
def dWt (f : Int → Int) (g : Int) (a b : Nat) : Int := if w32 (iand (ishr g (a : Int)) 1) = 1 then (if w32 (iand (ishr g (b : Int)) 1) = 1 then f (6 * (a : Int) + (b : Int)) else 0) else 0
def dW (n : Nat) (f : Int → Int) (g : Int) : Int := sm (fun a => sm (fun j => dWt f g a (a + 1 + j)) (n - (a + 1))) n
theorem St_debtWithin_e (A : StA h s n f) (g : Int) : St_debtWithin h s g = some (dW n f g, h) := by
  have n6 := A.2.2.2.1
  obtain ⟨s0, s1, s2, s3, s4⟩ := IsS_sh A.1
  unfold St_debtWithin St_debtWithin_b4
  refine itr_run (fun a : Nat => (h, s, g, sm (fun a => sm (fun j => dWt f g a (a + 1 + j)) (n - (a + 1))) a, (a : Int))) (n := n) ?_ ?_ (FU_gt (by omega))
  · intro a ha k
    show St_debtWithin_b4_body k h s g (sm (fun a => sm (fun j => dWt f g a (a + 1 + j)) (n - (a + 1))) a) (a : Int) = k (h, s, g, sm (fun a => sm (fun j => dWt f g a (a + 1 + j)) (n - (a + 1))) a + sm (fun j => dWt f g a (a + 1 + j)) (n - (a + 1)), (a : Int) + 1)
    generalize sm (fun a => sm (fun j => dWt f g a (a + 1 + j)) (n - (a + 1))) a = acc
    unfold St_debtWithin_b4_body
    rw [cC_s s0 rfl, A.2.1, w32_n (x := (a : Int)) (by omega) (by omega), w32_n (x := (n : Int)) (by omega) (by omega), if_pos (by omega), bd_s]
    unfold St_debtWithin_b17
    refine itr_runs (fun j : Nat => (h, s, g, acc + sm (fun j => dWt f g a (a + 1 + j)) j, (a : Int), ((a + 1 + j : Nat) : Int))) (n := n - (a + 1)) ?_ ?_ ?_ (FU_gt (by omega))
    · show (h, s, g, acc + 0, (a : Int), ((a + 1 + 0 : Nat) : Int)) = _
      rw [Int.add_zero]
      rfl
    · intro j hj k17
      show St_debtWithin_b17_body k k17 h s g (acc + sm (fun j => dWt f g a (a + 1 + j)) j) (a : Int) ((a + 1 + j : Nat) : Int) = k17 (h, s, g, acc + (sm (fun j => dWt f g a (a + 1 + j)) j + dWt f g a (a + 1 + j)), (a : Int), ((a + 1 + j : Nat) : Int) + 1)
      unfold St_debtWithin_b17_body dWt
      rw [cC_s s0 rfl, A.2.1, w32_n (x := ((a + 1 + j : Nat) : Int)) (by omega) (by omega), w32_n (x := (n : Int)) (by omega) (by omega), if_pos (by omega), Cc_holds_e, cl_s]
      by_cases c1 : w32 (iand (ishr g (a : Int)) 1) = 1
      · rw [if_pos c1, if_neg (by decide), Cc_holds_e, cl_s, if_pos c1]
        by_cases c2 : w32 (iand (ishr g ((a + 1 + j : Nat) : Int)) 1) = 1
        · rw [if_pos c2, if_neg (by decide), if_pos c2, St_owes_e A (by omega) (by omega) (by omega) (by omega), cl_s, bd_s, Int.add_assoc]
        · rw [if_neg c2, if_pos (by decide), if_neg c2, Int.add_zero]
      · rw [if_neg c1, if_pos (by decide), if_neg c1, Int.add_zero]
    · intro k17
      show St_debtWithin_b17_body k k17 h s g (acc + sm (fun j => dWt f g a (a + 1 + j)) (n - (a + 1))) (a : Int) ((a + 1 + (n - (a + 1)) : Nat) : Int) = _
      have e2 : a + 1 + (n - (a + 1)) = n := by omega
      unfold St_debtWithin_b17_body
      rw [cC_s s0 rfl, A.2.1, e2, if_neg (Int.lt_irrefl _)]
  · intro k
    show St_debtWithin_b4_body k h s g (dW n f g) (n : Int) = _
    unfold St_debtWithin_b4_body
    rw [cC_s s0 rfl, A.2.1, if_neg (Int.lt_irrefl _)]
theorem full_bits : ∀ n : Nat, n < 7 → ∀ a : Nat, a < n → w32 (iand (ishr (ishl 1 (n : Int) - 1) (a : Int)) 1) = 1 := by decide +kernel
theorem dW_full (hn : n ≤ 6) : dW n f (ishl 1 (n : Int) - 1) = allD n f := by
  unfold dW allD
  refine sm_c n (fun a ha => sm_c _ (fun j hj => ?_))
  unfold dWt
  rw [if_pos (full_bits n (by omega) a ha), if_pos (full_bits n (by omega) (a + 1 + j) (by omega))]
theorem St_allDebt_e (A : StA h s n f) : St_allDebt h s = some (allD n f, h) := by
  obtain ⟨s0, s1, s2, s3, s4⟩ := IsS_sh A.1
  unfold St_allDebt
  rw [cC_s s0 rfl, A.2.1, St_debtWithin_e A, cl_s, dW_full A.2.2.2.1]
theorem allD_b (g : Gd n f) : 0 ≤ allD n f ∧ allD n f ≤ 3564 := by
  have n6 := g.1
  have h1 : ∀ a : Nat, a < n → 0 ≤ sm (fun j => f (6 * (a : Int) + ((a + 1 + j : Nat) : Int))) (n - (a + 1)) ∧ sm (fun j => f (6 * (a : Int) + ((a + 1 + j : Nat) : Int))) (n - (a + 1)) ≤ 594 := by
    intro a ha
    have := sm_b (f := fun j => f (6 * (a : Int) + ((a + 1 + j : Nat) : Int))) (m := 99) (n - (a + 1)) (fun j hj => Gd_d g (by omega) (by omega) (by omega) (by omega))
    omega
  have := sm_b (f := fun a => sm (fun j => f (6 * (a : Int) + ((a + 1 + j : Nat) : Int))) (n - (a + 1))) (m := 594) n h1
  unfold allD
  omega
/-- the reference's copy -/
theorem Md_copy_e (M : StM h 2032 n f) : ∃ h', Md_copy h 2032 2033 = some (0, h') ∧ (∀ a : Int, a ≠ 2033 → h' a = h a) ∧ StM h' 2033 n f ∧ h' 2033 52 = 0 := by
  obtain ⟨sw, w0, w1⟩ := M.w2
  have sw2 : SH 2033 = (100, 233) := by decide +kernel
  have W : wp (Md_copy h 2032 2033) (fun r h' => r = 0 ∧ (∀ a : Int, a ≠ 2033 → h' a = h a) ∧ (∀ k : Int, 0 ≤ k → k < 52 → h' 2033 k = h 2032 k) ∧ h' 2033 52 = 0) := by
    unfold Md_copy Md_copy_b2
    refine itr_wp (fun k σ => ∃ h2, σ = (h2, 2032, 2033, (k : Int)) ∧ (∀ a : Int, a ≠ 2033 → h2 a = h a) ∧ ∀ j : Int, 0 ≤ j → j < k → h2 2033 j = h 2032 j) 52 ?_ ?_ (FU_gt (by decide)) ⟨h, rfl, fun _ _ => rfl, fun j j0 j1 => absurd j1 (by omega)⟩
    · rintro k σ kk hk ⟨h2, rfl, F2, T2⟩ K
      show wp (Md_copy_b2_body kk h2 2032 2033 (k : Int)) _
      unfold Md_copy_b2_body
      rw [w32_n (x := (k : Int)) (by omega) (by omega), if_pos (by omega), cX_s sw (by omega) (by omega) (by decide), cY_s sw2 (by decide) (by omega) (by omega) (by decide), pu_s, rd_ge (by decide), F2 2032 (by decide)]
      refine K _ ⟨_, rfl, fun a ha => by rw [up_off_row ha, F2 a ha], fun j j0 j1 => ?_⟩
      rw [up_row]
      by_cases e : j = (k : Int)
      · rw [e, ud_at]
      · rw [ud_ne e]; exact T2 j j0 (by omega)
    · rintro σ kk ⟨h2, rfl, F2, T2⟩
      show wp (Md_copy_b2_body kk h2 2032 2033 ((52 : Nat) : Int)) _
      unfold Md_copy_b2_body
      rw [if_neg (by decide), cY_s sw2 (by decide) (by decide) (by decide) (by decide), pu_s]
      refine wp_i ⟨rfl, fun a ha => by rw [up_off_row ha, F2 a ha], fun k k0 k1 => by rw [up_off (by omega)]; exact T2 k k0 k1, up_at⟩
  obtain ⟨r, h', e, rfl, F, T, z⟩ := W
  refine ⟨h', e, F, ⟨Or.inr rfl, by rw [F 2000 (by decide)]; exact M.2.1, ?_, M.2.2.2⟩, z⟩
  rw [← M.2.2.1]
  funext k
  unfold mR
  by_cases q : 0 ≤ k ∧ k < 52
  · rw [if_pos q, if_pos q, T k q.1 q.2]
  · rw [if_neg q, if_neg q]
theorem Abed0 : AbedOK 0 (-1) := by
  have key : ∀ a : Nat, a < 6 → ¬ w32 (iand (ishr 0 (a : Int)) 1) = 1 := by decide +kernel
  exact fun a ha => ⟨fun q => absurd q (key a ha), fun q => by omega⟩
theorem Abedp : ∀ p : Nat, p < 6 → AbedOK (ishl 1 (p : Int)) (p : Int) := by
  have key : ∀ p : Nat, p < 6 → ∀ a : Nat, a < 6 → (w32 (iand (ishr (ishl 1 (p : Int)) (a : Int)) 1) = 1 ↔ (a : Int) = (p : Int)) := by decide +kernel
  exact key
end M
end PureI
