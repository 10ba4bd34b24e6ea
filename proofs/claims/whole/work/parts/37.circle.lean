section PureS
/-! CIRCLE: the wrongs one did, the wrongs done to one, whom one sits with -/
variable {h h' : Hp} {n W : Nat} {f ru pd wd : Int → Int}
def wbI (wd : Int → Int) (j a : Int) (i : Nat) (x : Int) : Int := if w32 (wd (3 * (i : Int) + j)) = w32 a then ior x (ishl 1 (i : Int)) else ior x 0
def wbV (W : Nat) (wd : Int → Int) (j a : Int) : Int := fo (wbI wd j a) W 0
theorem c_by (C : CtA h n W ru pd wd) (a : Int) : Cy_wrongsBy h (h 20 1) a = some (wbV W wd 0 a, h) := by
  have W8 := C.2.2.1
  obtain ⟨s0, s1, s2, s3, s4⟩ := C.shc
  unfold Cy_wrongsBy Cy_wrongsBy_b4
  refine itr_run (fun i : Nat => (h, h 20 1, a, fo (wbI wd 0 a) i 0, (i : Int))) (n := W) ?_ ?_ (FU_gt (by omega))
  · intro i hi k
    show Cy_wrongsBy_b4_body k h (h 20 1) a (fo (wbI wd 0 a) i 0) (i : Int) = k (h, h 20 1, a, wbI wd 0 a i (fo (wbI wd 0 a) i 0), (i : Int) + 1)
    generalize fo (wbI wd 0 a) i 0 = x
    have e : Cy_whoOf h (h 20 1) (i : Int) = some (wd (3 * (i : Int) + 0), h) := by
      unfold Cy_whoOf
      rw [cC_s s0 rfl, at_eq s3 (by omega) (by omega) (by omega) (by omega), cl_s, C.2.2.2.2.2 _ (by omega) (by omega), Int.add_zero]
    unfold Cy_wrongsBy_b4_body wbI
    rw [cC_s s0 rfl, C.2.1, w32_n (x := (i : Int)) (by omega) (by omega), w32_n (x := (W : Int)) (by omega) (by omega), if_pos (by omega), e, cl_s]
    by_cases c : w32 (wd (3 * (i : Int) + 0)) = w32 a
    · rw [if_pos c, if_pos c, bd_s]
    · rw [if_neg c, if_neg c, bd_s]
  · intro k
    show Cy_wrongsBy_b4_body k h (h 20 1) a (fo (wbI wd 0 a) W 0) (W : Int) = _
    unfold Cy_wrongsBy_b4_body
    rw [cC_s s0 rfl, C.2.1, if_neg (Int.lt_irrefl _)]
    rfl
theorem c_ag (C : CtA h n W ru pd wd) (a : Int) : Cy_wrongsAgainst h (h 20 1) a = some (wbV W wd 1 a, h) := by
  have W8 := C.2.2.1
  obtain ⟨s0, s1, s2, s3, s4⟩ := C.shc
  unfold Cy_wrongsAgainst Cy_wrongsAgainst_b4
  refine itr_run (fun i : Nat => (h, h 20 1, a, fo (wbI wd 1 a) i 0, (i : Int))) (n := W) ?_ ?_ (FU_gt (by omega))
  · intro i hi k
    show Cy_wrongsAgainst_b4_body k h (h 20 1) a (fo (wbI wd 1 a) i 0) (i : Int) = k (h, h 20 1, a, wbI wd 1 a i (fo (wbI wd 1 a) i 0), (i : Int) + 1)
    generalize fo (wbI wd 1 a) i 0 = x
    have e : Cy_whomOf h (h 20 1) (i : Int) = some (wd (3 * (i : Int) + 1), h) := by
      unfold Cy_whomOf
      rw [cC_s s0 rfl, at_eq s3 (by omega) (by omega) (by omega) (by omega), cl_s, C.2.2.2.2.2 _ (by omega) (by omega)]
    unfold Cy_wrongsAgainst_b4_body wbI
    rw [cC_s s0 rfl, C.2.1, w32_n (x := (i : Int)) (by omega) (by omega), w32_n (x := (W : Int)) (by omega) (by omega), if_pos (by omega), e, cl_s]
    by_cases c : w32 (wd (3 * (i : Int) + 1)) = w32 a
    · rw [if_pos c, if_pos c, bd_s]
    · rw [if_neg c, if_neg c, bd_s]
  · intro k
    show Cy_wrongsAgainst_b4_body k h (h 20 1) a (fo (wbI wd 1 a) W 0) (W : Int) = _
    unfold Cy_wrongsAgainst_b4_body
    rw [cC_s s0 rfl, C.2.1, if_neg (Int.lt_irrefl _)]
    rfl
theorem SH2022 : SH 2022 = (100, 24) := by decide +kernel
theorem m_c81 (M : StM h 2032 n f) {a k x : Int} (hk : ¬ w32 k = 2) : Md_circle_b81 h 2000 a k x 0 = some (x, h) := by
  unfold Md_circle_b81
  refine itr_run (fun _ : Nat => (h, 2000, a, k, x, (0 : Int))) (n := 0) (fun i hi => absurd hi (by omega)) ?_ (FU_gt (by decide))
  intro kk
  show Md_circle_b81_body kk h 2000 a k x 0 = _
  unfold Md_circle_b81_body
  rw [cC_s SH2000' rfl]
  by_cases c : w32 0 < w32 (h 2000 26)
  · rw [if_pos c, if_neg hk]
  · rw [if_neg c]
theorem m_c81' (M : StM h 2032 n f) {a k : Int} (a0 : 0 ≤ a) (a1 : a < 6) (hk : w32 k = 2) : Md_circle_b81 h 2000 a k 0 0 = some (ciV n f a, h) := by
  have n6 := M.2.2.2.1
  unfold Md_circle_b81
  refine itr_run (fun p : Nat => (h, 2000, a, k, fo (ciI f a) p 0, (p : Int))) (n := n) ?_ ?_ (FU_gt (by omega))
  · intro p hp kk
    show Md_circle_b81_body kk h 2000 a k (fo (ciI f a) p 0) (p : Int) = kk (h, 2000, a, k, ciI f a p (fo (ciI f a) p 0), (p : Int) + 1)
    have B : ir (fo (ciI f a) p 0) := ciI_ir p
    generalize fo (ciI f a) p 0 = b at B
    have D := Gd_d M.2.2.2 a0 a1 (b := (p : Int)) (by omega) (by omega)
    unfold Md_circle_b81_body ciI
    rw [cC_s SH2000' rfl, M.2.1, w32_n (x := (p : Int)) (by omega) (by omega), w32_n (x := (n : Int)) (by omega) (by omega), if_pos (by omega), if_pos hk, Md_owes_e M a0 a1 (by omega) (by omega), cl_s, w32_n D.1 (by omega)]
    by_cases c : 0 < f (6 * a + (p : Int))
    · rw [if_pos c, if_pos c, bd_s]
    · rw [if_neg c, if_neg c, bd_s, ior_0 B]
  · intro kk
    show Md_circle_b81_body kk h 2000 a k (fo (ciI f a) n 0) (n : Int) = _
    unfold Md_circle_b81_body
    rw [cC_s SH2000' rfl, M.2.1, if_neg (Int.lt_irrefl _)]
    rfl
theorem m_c32 (C : CtM h n W ru pd wd) (M : StM h 2032 n f) {a k : Int} (hk : k = 0 ∨ k = 1) : Md_circle_b32 h 2000 a k 0 0 = some (wbV W wd k a, h) := by
  have W8 := C.2.2.2.1
  have wk : w32 k = k := w32_n (by omega) (by omega)
  unfold Md_circle_b32
  refine itr_run (fun i : Nat => (h, 2000, a, k, fo (wbI wd k a) i 0, (i : Int))) (n := W) ?_ ?_ (FU_gt (by omega))
  · intro i hi kk
    show Md_circle_b32_body kk h 2000 a k (fo (wbI wd k a) i 0) (i : Int) = kk (h, 2000, a, k, wbI wd k a i (fo (wbI wd k a) i 0), (i : Int) + 1)
    generalize fo (wbI wd k a) i 0 = x
    unfold Md_circle_b32_body wbI
    rw [cC_s SH2000' rfl, C.2.2.1, w32_n (x := (i : Int)) (by omega) (by omega), w32_n (x := (W : Int)) (by omega) (by omega), if_pos (by omega), wk, if_pos (by omega), cX_s SH2022 (by omega) (by omega) (by omega), w32_n (x := 3 * (i : Int) + k) (by omega) (by omega), rd_ge (by decide), C.2.2.2.2.2.2 _ (by omega) (by omega)]
    by_cases c : w32 (wd (3 * (i : Int) + k)) = w32 a
    · rw [if_pos c, if_pos c, bd_s]
    · rw [if_neg c, if_neg c, bd_s]
  · intro kk
    show Md_circle_b32_body kk h 2000 a k (fo (wbI wd k a) W 0) (W : Int) = _
    unfold Md_circle_b32_body
    rw [cC_s SH2000' rfl, C.2.2.1, if_neg (Int.lt_irrefl _), m_c81 M (by omega)]
    rfl
theorem m_c32' (C : CtM h n W ru pd wd) (M : StM h 2032 n f) {a k : Int} (a0 : 0 ≤ a) (a1 : a < 6) (hk : w32 k = 2) : Md_circle_b32 h 2000 a k 0 0 = some (ciV n f a, h) := by
  unfold Md_circle_b32
  refine itr_run (fun _ : Nat => (h, 2000, a, k, (0 : Int), (0 : Int))) (n := 0) (fun i hi => absurd hi (by omega)) ?_ (FU_gt (by decide))
  intro kk
  show Md_circle_b32_body kk h 2000 a k 0 0 = _
  unfold Md_circle_b32_body
  rw [cC_s SH2000' rfl, m_c81' M a0 a1 hk, hk, if_neg (show ¬ (2 : Int) < 2 by decide)]
  by_cases c : w32 0 < w32 (h 2000 27)
  · rw [if_pos c]
  · rw [if_neg c]
theorem circle_e (C : CtA h n W ru pd wd) (A : StA h 110 n f) (D : CtM h n W ru pd wd) (M : StM h 2032 n f) {a k : Int} (ha : ir a) (hk : ir k) : ∃ r : Int, Cc_circle h 20 a k = some (r, h) ∧ Md_circle h 2000 a k = some (r, up h 2000 0 0) := by
  have M0 := M.on t0_sc
  have D0 := D.on t0_sc
  have n6 := A.2.2.2.1
  unfold Cc_circle Md_circle
  rw [cC_s SH20' rfl, cC_s SH2000' rfl, pu_s]
  by_cases q : isP n a
  · have q' := q
    obtain ⟨a0, a1⟩ := q'
    rw [c_isP1 C.1 ha q, cl_s, if_neg (show ¬ w32 1 = 0 by decide), m_isP1 M0.2.1 n6 ha q, cl_s, if_neg (show ¬ w32 1 = 0 by decide), ri hk]
    by_cases z : 0 ≤ k ∧ k ≤ 2
    · rw [isIn1 hk ⟨by decide, by decide⟩ ⟨by decide, by decide⟩ z, cl_s, if_neg (show ¬ w32 1 = 0 by decide)]
      by_cases k0 : k = 0
      · subst k0
        exact ⟨_, by rw [if_pos rfl, cC_s C.shc.1 rfl, c_by C, cl_s], m_c32 D0 M0 (Or.inl rfl)⟩
      · rw [if_neg k0]
        by_cases k1 : k = 1
        · subst k1
          exact ⟨_, by rw [if_pos rfl, cC_s C.shc.1 rfl, c_ag C, cl_s], m_c32 D0 M0 (Or.inr rfl)⟩
        · rw [if_neg k1]
          have k2 : k = 2 := by omega
          exact ⟨_, by rw [if_pos k2, c_circ A a0 (by omega), cl_s], m_c32' D0 M0 a0 (by omega) (by rw [ri hk]; exact k2)⟩
    · rw [isIn0 hk ⟨by decide, by decide⟩ ⟨by decide, by decide⟩ z, cl_s, if_pos (show w32 0 = 0 by decide)]
      exact ⟨_, by rw [if_neg (by omega), if_neg (by omega), if_neg (by omega)], rfl⟩
  · rw [c_isP0 C.1 ha q, cl_s, if_pos (show w32 0 = 0 by decide), m_isP0 M0.2.1 n6 ha q, cl_s, if_pos (show w32 0 = 0 by decide)]
    exact ⟨_, rfl, rfl⟩
end PureS
