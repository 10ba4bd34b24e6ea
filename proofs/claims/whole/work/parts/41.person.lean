section PureW
/-! PERSON -/
variable {h h' : Hp} {n W : Nat} {f ru pd wd : Int → Int}
theorem c_person (C : CtA h n W ru pd wd) (A : StA h 110 n f) {a k : Int} (ha : ir a) (hk : ir k) (q : isP n a) (z : 0 ≤ k ∧ k ≤ 3) : Cc_person h 20 a k = some (vlV n f pd k a, h) := by
  have n6 := A.2.2.2.1
  have s0 := (IsS_sh A.1).1
  have sc := C.shc
  unfold Cc_person vlV
  rw [cC_s SH20' rfl, c_isP1 C.1 ha q, cl_s, if_neg (show ¬ w32 1 = 0 by decide), ri hk, if_neg (show ¬ k < 0 by omega), if_neg (show ¬ 3 < k by omega)]
  obtain ⟨p0, p1⟩ := q
  by_cases c0 : k = 0
  · rw [if_pos c0, if_pos c0, cC_s s0 rfl, St_lonelyOf_e A p0 p1, cl_s]
  · rw [if_neg c0, if_neg c0]
    by_cases c1 : k = 1
    · rw [if_pos c1, if_pos c1, cC_s s0 rfl, St_boreOf_e A p0 p1, cl_s]
    · rw [if_neg c1, if_neg c1]
      by_cases c2 : k = 2
      · have e : Cy_hardOf h (h 20 1) a = some (pd (3 * a + 2), h) := by
          unfold Cy_hardOf
          rw [cC_s sc.1 rfl, at_eq sc.2.2.1 (by omega) (by omega) (by omega) (by omega), cl_s, C.2.2.2.2.1 _ (by omega) (by omega)]
        rw [if_pos c2, if_pos c2, cC_s sc.1 rfl, e, cl_s]
      · rw [if_neg c2, if_neg c2, cC_s s0 rfl, St_debtOf_e A p0 (by omega), cl_s]
        rfl
theorem m_person1 (C : CtM h n W ru pd wd) (M : StM h 2032 n f) {a k : Int} (ha : ir a) (hk : ir k) (q : isP n a) (z : 0 ≤ k ∧ k ≤ 3) : Md_person h 2000 a k = some (vlV n f pd k a, up h 2000 0 0) := by
  have M0 := M.on t0_sc
  have D0 := C.on t0_sc
  have n6 := C.2.1
  have e0 : up h 2000 0 0 2000 0 = 0 := up_at
  unfold Md_person Md_person_b26 vlV
  rw [cC_s SH2000' rfl, m_isP1 C.1 n6 ha q, cl_s, if_neg (show ¬ w32 1 = 0 by decide), ri hk, isIn1 hk ⟨by decide, by decide⟩ ⟨by decide, by decide⟩ z, cl_s, if_neg (show ¬ w32 1 = 0 by decide), cC_s SH2000' rfl, pu_s, cC_s SH2000' rfl, e0, if_neg (show ¬ 0 < w32 0 by decide)]
  obtain ⟨p0, p1⟩ := q
  by_cases c2 : k = 2
  · rw [if_pos c2, if_neg (show ¬ k = 0 by omega), if_neg (show ¬ k = 1 by omega), if_pos c2, cX_s SH2020 (by omega) (by omega) (by omega), w32_n (x := 3 * a + 2) (by omega) (by omega), rd_ge (by omega), D0.2.2.2.2.2.1 _ (by omega) (by omega)]
  · rw [if_neg c2]
    by_cases c3 : k = 3
    · rw [if_pos c3, Md_owesInAll_e M0 p0 (by omega), cl_s, if_neg (show ¬ k = 0 by omega), if_neg (show ¬ k = 1 by omega), if_neg c2]
    · rw [if_neg c3, cX_s SH2032' (by omega) (by omega) (by omega), w32_n (x := 36 + 2 * a + k) (by omega) (by omega), rd_ge (by omega), M0.rd (by omega) (by omega)]
      by_cases c0 : k = 0
      · rw [if_pos c0, c0, Int.add_zero]
      · have c1 : k = 1 := by omega
        have e : 36 + 2 * a + 1 = 37 + 2 * a := by omega
        rw [if_neg c0, if_pos c1, c1, e]
theorem m_person0 (c26 : h 2000 26 = (n : Int)) (n6 : n ≤ 6) {a k : Int} (ha : ir a) (hk : ir k) (q : ¬ (isP n a ∧ 0 ≤ k ∧ k ≤ 3)) : Md_person h 2000 a k = some (0, up h 2000 0 1) := by
  have e0 : up h 2000 0 1 2000 0 = 1 := up_at
  have e : ∀ x1 x2 : Int, Md_person_b26 h 2000 x1 x2 2000 1 = some (0, up h 2000 0 1) := by
    intro x1 x2
    unfold Md_person_b26
    rw [cC_s SH2000' rfl, pu_s, cC_s SH2000' rfl, e0, if_pos (show 0 < w32 1 by decide)]
  unfold Md_person
  rw [cC_s SH2000' rfl]
  by_cases q1 : isP n a
  · rw [m_isP1 c26 n6 ha q1, cl_s, if_neg (show ¬ w32 1 = 0 by decide), ri hk, isIn0 hk ⟨by decide, by decide⟩ ⟨by decide, by decide⟩ (fun z => q ⟨q1, z⟩), cl_s, if_pos (show w32 0 = 0 by decide), e]
  · rw [m_isP0 c26 n6 ha q1, cl_s, if_pos (show w32 0 = 0 by decide), e]
theorem thrown_e (h : Hp) : Md_thrown h 2000 = some (h 2000 0, h) := by
  unfold Md_thrown
  rw [cC_s SH2000' rfl]
end PureW
