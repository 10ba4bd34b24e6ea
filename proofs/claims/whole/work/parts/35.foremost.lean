section PureQ
/-! WHO IS FIRST: loneliest, the greatest bore, the hardest, who owes most -/
variable {h h' : Hp} {n W : Nat} {f ru pd wd : Int → Int}
def vlV (n : Nat) (f pd : Int → Int) (k p : Int) : Int := if w32 k = 0 then f (36 + 2 * p) else if w32 k = 1 then f (37 + 2 * p) else if w32 k = 2 then pd (3 * p + 2) else dbV n f p
theorem c_side (C : CtA h n W ru pd wd) (A : StA h 110 n f) (k : Int) {p : Int} (p0 : 0 ≤ p) (p1 : p < n) : Cc_sideOf h 20 p k = some (vlV n f pd k p, h) := by
  have n6 := A.2.2.2.1
  have s0 := (IsS_sh A.1).1
  have sc := C.shc
  unfold Cc_sideOf vlV
  by_cases c0 : w32 k = 0
  · rw [if_pos c0, if_pos c0, cC_s SH20' rfl, cC_s s0 rfl, St_lonelyOf_e A p0 p1, cl_s]
  · rw [if_neg c0, if_neg c0]
    by_cases c1 : w32 k = 1
    · rw [if_pos c1, if_pos c1, cC_s SH20' rfl, cC_s s0 rfl, St_boreOf_e A p0 p1, cl_s]
    · rw [if_neg c1, if_neg c1]
      by_cases c2 : w32 k = 2
      · have e : Cy_hardOf h (h 20 1) p = some (pd (3 * p + 2), h) := by
          unfold Cy_hardOf
          rw [cC_s sc.1 rfl, at_eq sc.2.2.1 (by omega) (by omega) (by omega) (by omega), cl_s, C.2.2.2.2.1 _ (by omega) (by omega)]
        rw [if_pos c2, if_pos c2, cC_s SH20' rfl, cC_s sc.1 rfl, e, cl_s]
      · rw [if_neg c2, if_neg c2, cC_s SH20' rfl, cC_s s0 rfl, St_debtOf_e A p0 (by omega), cl_s]
        rfl
theorem SH2020 : SH 2020 = (100, 18) := by decide +kernel
theorem SH2032' : SH 2032 = (100, 233) := by decide +kernel
theorem m_side (C : CtM h n W ru pd wd) (M : StM h 2032 n f) (k : Int) {p : Int} (p0 : 0 ≤ p) (p1 : p < n) : Md_valueOf h 2000 k p = some (vlV n f pd k p, h) := by
  have n6 := M.2.2.2.1
  unfold Md_valueOf vlV
  by_cases c0 : w32 k = 0
  · rw [if_pos c0, if_pos c0, cC_s SH2000' rfl, Md_lonely_e M p0 (by omega), cl_s]
  · rw [if_neg c0, if_neg c0]
    by_cases c1 : w32 k = 1
    · have e : 36 + 2 * p + 1 = 37 + 2 * p := by omega
      rw [if_pos c1, if_pos c1, cC_s SH2000' rfl, e, cX_s SH2032' (by omega) (by omega) (by omega), w32_n (x := 37 + 2 * p) (by omega) (by omega), rd_ge (by omega), M.rd (by omega) (by omega)]
    · rw [if_neg c1, if_neg c1]
      by_cases c2 : w32 k = 2
      · rw [if_pos c2, if_pos c2, cC_s SH2000' rfl, cX_s SH2020 (by omega) (by omega) (by omega), w32_n (x := 3 * p + 2) (by omega) (by omega), rd_ge (by omega), C.2.2.2.2.2.1 _ (by omega) (by omega)]
      · rw [if_neg c2, if_neg c2, cC_s SH2000' rfl, Md_owesInAll_e M p0 (by omega), cl_s]
def gtI (n : Nat) (f pd : Int → Int) (k : Int) (i : Nat) (x : Int) : Int := if w32 (vlV n f pd k x) < w32 (vlV n f pd k ((i : Int) + 1)) then (i : Int) + 1 else x
def gtV (n : Nat) (f pd : Int → Int) (k : Int) : Int := fo (gtI n f pd k) (n - 1) 0
theorem gtI_b {k : Int} {i : Nat} (hi : i < n) : 0 ≤ fo (gtI n f pd k) i 0 ∧ fo (gtI n f pd k) i 0 < (n : Int) := by
  refine fo_inv (fun x => 0 ≤ x ∧ x < (n : Int)) (fun j x hj q => ?_) ⟨by omega, by omega⟩
  unfold gtI
  by_cases c : w32 (vlV n f pd k x) < w32 (vlV n f pd k ((j : Int) + 1))
  · rw [if_pos c]; omega
  · rw [if_neg c]; exact q
theorem c_first (C : CtA h n W ru pd wd) (A : StA h 110 n f) (hn : ¬ n = 0) (k : Int) : Cc_foremost h 20 k = some (gtV n f pd k, h) := by
  have n6 := A.2.2.2.1
  have s0 := (IsS_sh A.1).1
  unfold Cc_foremost Cc_foremost_b4
  refine itr_runs (fun i : Nat => (h, 20, k, fo (gtI n f pd k) i 0, ((i + 1 : Nat) : Int))) (n := n - 1) rfl ?_ ?_ (FU_gt (by omega))
  · intro i hi kk
    show Cc_foremost_b4_body kk h 20 k (fo (gtI n f pd k) i 0) ((i + 1 : Nat) : Int) = kk (h, 20, k, gtI n f pd k i (fo (gtI n f pd k) i 0), ((i + 1 : Nat) : Int) + 1)
    have B := gtI_b (n := n) (f := f) (pd := pd) (k := k) (i := i) (by omega)
    generalize fo (gtI n f pd k) i 0 = x at B
    have ei : ((i + 1 : Nat) : Int) = (i : Int) + 1 := rfl
    rw [ei]
    unfold Cc_foremost_b4_body gtI
    rw [cC_s SH20' rfl, cC_s s0 rfl, A.2.1, w32_n (x := (i : Int) + 1) (by omega) (by omega), w32_n (x := (n : Int)) (by omega) (by omega), if_pos (by omega), c_side C A k (by omega) (by omega), cl_s, c_side C A k B.1 B.2, cl_s]
    by_cases c : w32 (vlV n f pd k x) < w32 (vlV n f pd k ((i : Int) + 1))
    · rw [if_pos c, if_pos c]
    · rw [if_neg c, if_neg c]
  · intro kk
    have e : n - 1 + 1 = n := by omega
    show Cc_foremost_b4_body kk h 20 k (fo (gtI n f pd k) (n - 1) 0) ((n - 1 + 1 : Nat) : Int) = _
    rw [e]
    unfold Cc_foremost_b4_body
    rw [cC_s SH20' rfl, cC_s s0 rfl, A.2.1, if_neg (Int.lt_irrefl _)]
    rfl
theorem m_first (C : CtM h n W ru pd wd) (M : StM h 2032 n f) (hn : ¬ n = 0) (k : Int) : Md_greatest h 2000 k = some (gtV n f pd k, h) := by
  have n6 := M.2.2.2.1
  unfold Md_greatest Md_greatest_b4
  refine itr_runs (fun i : Nat => (h, 2000, k, fo (gtI n f pd k) i 0, ((i + 1 : Nat) : Int))) (n := n - 1) rfl ?_ ?_ (FU_gt (by omega))
  · intro i hi kk
    show Md_greatest_b4_body kk h 2000 k (fo (gtI n f pd k) i 0) ((i + 1 : Nat) : Int) = kk (h, 2000, k, gtI n f pd k i (fo (gtI n f pd k) i 0), ((i + 1 : Nat) : Int) + 1)
    have B := gtI_b (n := n) (f := f) (pd := pd) (k := k) (i := i) (by omega)
    generalize fo (gtI n f pd k) i 0 = x at B
    have ei : ((i + 1 : Nat) : Int) = (i : Int) + 1 := rfl
    rw [ei]
    unfold Md_greatest_b4_body gtI
    rw [cC_s SH2000' rfl, M.2.1, w32_n (x := (i : Int) + 1) (by omega) (by omega), w32_n (x := (n : Int)) (by omega) (by omega), if_pos (by omega), m_side C M k (by omega) (by omega), cl_s, m_side C M k B.1 B.2, cl_s]
    by_cases c : w32 (vlV n f pd k x) < w32 (vlV n f pd k ((i : Int) + 1))
    · rw [if_pos c, if_pos c]
    · rw [if_neg c, if_neg c]
  · intro kk
    have e : n - 1 + 1 = n := by omega
    show Md_greatest_b4_body kk h 2000 k (fo (gtI n f pd k) (n - 1) 0) ((n - 1 + 1 : Nat) : Int) = _
    rw [e]
    unfold Md_greatest_b4_body
    rw [cC_s SH2000' rfl, M.2.1, if_neg (Int.lt_irrefl _)]
    rfl
end PureQ
