section PureR
/-! ALL: one question for the whole county -/
variable {h h' : Hp} {n W : Nat} {f ru pd wd : Int → Int}
theorem left_bits : ∀ w : Nat, w < 9 → ∀ x : Nat, x < 2 ^ w → iand (ishl 1 (w : Int) - 1) (ixor (x : Int) (-1)) = ishl 1 (w : Int) - 1 - (x : Int) := by decide +kernel
theorem all_e (C : CtA h n W ru pd wd) (A : StA h 110 n f) (D : CtM h n W ru pd wd) (M : StM h 2032 n f) (f48 : 0 ≤ f 48 ∧ f 48 < ((2 ^ W : Nat) : Int)) (a : Int) : ∃ (r : Int) (h1 h2 : Hp), Cc_all h 20 a = some (r, h1) ∧ On SCA h h1 ∧ Md_all h1 2000 a = some (r, h2) ∧ On SCA h h2 := by
  have n6 := A.2.2.2.1
  have s0 := (IsS_sh A.1).1
  have M0 := M.on t0_sc
  have D0 := D.on t0_sc
  have e26 : w32 (up h 2000 0 0 2000 26) = (n : Int) := by rw [M0.2.1, w32_n (by omega) (by omega)]
  unfold Cc_all Md_all
  rw [cC_s SH20' rfl]
  by_cases c : n = 0
  · refine ⟨-1, h, _, ?_, On.rf, ?_, t0_sc⟩
    · rw [told0 C.1 c, cl_s, if_pos (by decide)]
    · rw [cC_s SH2000' rfl, pu_s, e26, if_pos (by omega)]
  rw [told1 C.1 c, cl_s, if_neg (by decide)]
  by_cases k0 : w32 a = 0
  · refine ⟨_, h, _, by rw [if_pos k0, c_first C A c, cl_s], On.rf, ?_, t0_sc⟩
    rw [cC_s SH2000' rfl, pu_s, e26, if_neg (by omega), if_pos k0, m_first D0 M0 c, cl_s]
  rw [if_neg k0]
  by_cases k1 : w32 a = 1
  · refine ⟨_, h, _, by rw [if_pos k1, c_first C A c, cl_s], On.rf, ?_, t0_sc⟩
    rw [cC_s SH2000' rfl, pu_s, e26, if_neg (by omega), if_neg k0, if_pos k1, m_first D0 M0 c, cl_s]
  rw [if_neg k1]
  by_cases k2 : w32 a = 2
  · refine ⟨_, h, _, by rw [if_pos k2, c_first C A c, cl_s], On.rf, ?_, t0_sc⟩
    rw [cC_s SH2000' rfl, pu_s, e26, if_neg (by omega), if_neg k0, if_neg k1, if_pos k2, m_first D0 M0 c, cl_s]
  rw [if_neg k2]
  by_cases k3 : w32 a = 3
  · refine ⟨_, h, _, by rw [if_pos k3, c_first C A c, cl_s], On.rf, ?_, t0_sc⟩
    rw [cC_s SH2000' rfl, pu_s, e26, if_neg (by omega), if_neg k0, if_neg k1, if_neg k2, if_pos k3, m_first D0 M0 c, cl_s]
  rw [if_neg k3]
  by_cases k4 : w32 a = 4
  · have e5 : h 110 5 = f 48 := by rw [← A.2.2.1]; rfl
    obtain ⟨x, hx⟩ : ∃ x : Nat, f 48 = (x : Int) := ⟨(f 48).toNat, by omega⟩
    have L := left_bits W (by have := C.2.2.1; omega) x (by have := f48.2; rw [hx] at this; exact Int.ofNat_lt.mp this)
    refine ⟨_, h, _, by rw [if_pos k4, cC_s C.shc.1 rfl, cC_s s0 rfl, C.2.1, e5, hx], On.rf, ?_, t0_sc⟩
    rw [cC_s SH2000' rfl, pu_s, e26, if_neg (by omega), if_neg k0, if_neg k1, if_neg k2, if_neg k3, if_pos k4, cX_s SH2032' (by decide) (by decide) (by decide), rd_ge (by decide), M0.rd (by decide) (by decide), D0.2.2.1, hx, L]
  rw [if_neg k4]
  by_cases k5 : w32 a = 5
  · refine ⟨_, h, _, by rw [if_pos k5, cC_s s0 rfl, St_allDebt_e A, cl_s], On.rf, ?_, t0_sc⟩
    rw [cC_s SH2000' rfl, pu_s, e26, if_neg (by omega), if_neg k0, if_neg k1, if_neg k2, if_neg k3, if_neg k4, if_pos k5, Md_allOwed_e M0, cl_s]
  rw [if_neg k5]
  by_cases k6 : w32 a = 6
  · refine ⟨_, h, _, by rw [if_pos k6, c_free A, cl_s], On.rf, ?_, t0_sc⟩
    rw [cC_s SH2000' rfl, pu_s, e26, if_neg (by omega), if_neg k0, if_neg k1, if_neg k2, if_neg k3, if_neg k4, if_neg k5, if_pos k6, m_free M0, cl_s]
  rw [if_neg k6]
  by_cases k7 : w32 a = 7
  · have e7 : h 110 7 = f 50 := by rw [← A.2.2.1]; rfl
    refine ⟨_, h, _, by rw [if_pos k7, cC_s s0 rfl, e7], On.rf, ?_, t0_sc⟩
    rw [cC_s SH2000' rfl, pu_s, e26, if_neg (by omega), if_neg k0, if_neg k1, if_neg k2, if_neg k3, if_neg k4, if_neg k5, if_neg k6, if_pos k7, cX_s SH2032' (by decide) (by decide) (by decide), rd_ge (by decide), M0.rd (by decide) (by decide)]
  rw [if_neg k7]
  by_cases k8 : w32 a = 8
  · obtain ⟨h1, e1, F1⟩ := c_never A
    have M1 := (M.on F1).on t0_sc
    obtain ⟨h2, e2, F2⟩ := m_never M1
    have e26' : w32 (up h1 2000 0 0 2000 26) = (n : Int) := by rw [M1.2.1, w32_n (by omega) (by omega)]
    refine ⟨_, h1, h2, by rw [if_pos k8, e1, cl_s], F1, ?_, (F1.tr t0_sc).tr F2⟩
    rw [cC_s SH2000' rfl, pu_s, e26', if_neg (by omega), if_neg k0, if_neg k1, if_neg k2, if_neg k3, if_neg k4, if_neg k5, if_neg k6, if_neg k7, if_pos k8, e2, cl_s]
  rw [if_neg k8]
  by_cases k9 : w32 a = 9
  · refine ⟨_, h, _, by rw [if_pos k9, c_party A, cl_s], On.rf, ?_, t0_sc⟩
    rw [cC_s SH2000' rfl, pu_s, e26, if_neg (by omega), if_neg k0, if_neg k1, if_neg k2, if_neg k3, if_neg k4, if_neg k5, if_neg k6, if_neg k7, if_neg k8, if_pos k9, m_party M0, cl_s]
  refine ⟨_, h, _, by rw [if_neg k9], On.rf, ?_, t0_sc⟩
  rw [cC_s SH2000' rfl, pu_s, e26, if_neg (by omega), if_neg k0, if_neg k1, if_neg k2, if_neg k3, if_neg k4, if_neg k5, if_neg k6, if_neg k7, if_neg k8, if_neg k9]
end PureR
