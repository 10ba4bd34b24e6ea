section PureO
/-! THE COUNTY'S DATA on both sides; who is a person; the plain questions -/
variable {h h' : Hp} {n W : Nat} {f ru pd wd : Int → Int}
def CtA (h : Hp) (n W : Nat) (ru pd wd : Int → Int) : Prop := CoA h n ∧ h (h 20 1) 5 = (W : Int) ∧ W ≤ 8 ∧ (∀ k : Int, 0 ≤ k → k < 2 → h (h 20 1 + 1) k = ru k) ∧ (∀ k : Int, 0 ≤ k → k < 3 * (n : Int) → h (h 20 1 + 2) k = pd k) ∧ ∀ k : Int, 0 ≤ k → k < 3 * (W : Int) → h (h 20 1 + 3) k = wd k
def CtM (h : Hp) (n W : Nat) (ru pd wd : Int → Int) : Prop := h 2000 26 = (n : Int) ∧ n ≤ 6 ∧ h 2000 27 = (W : Int) ∧ W ≤ 8 ∧ (∀ k : Int, 0 ≤ k → k < 2 → h 2018 k = ru k) ∧ (∀ k : Int, 0 ≤ k → k < 3 * (n : Int) → h 2020 k = pd k) ∧ ∀ k : Int, 0 ≤ k → k < 3 * (W : Int) → h 2022 k = wd k
theorem CtA.shc (C : CtA h n W ru pd wd) : SH (h 20 1) = (0, 0) ∧ SH (h 20 1 + 1) = (100, 3) ∧ SH (h 20 1 + 2) = (100, 18) ∧ SH (h 20 1 + 3) = (100, 24) ∧ 20 ≤ h 20 1 := by
  rcases C.1.1 with q | q <;> rw [q]
  · exact ⟨by decide +kernel, by decide +kernel, by decide +kernel, by decide +kernel, by decide⟩
  · exact ⟨by decide +kernel, by decide +kernel, by decide +kernel, by decide +kernel, by decide⟩
theorem CtA.on (C : CtA h n W ru pd wd) (F : On SCA h h') : CtA h' n W ru pd wd := by
  obtain ⟨c1, c2, c3, c4, c5, c6⟩ := C
  have e1 : h' 20 1 = h 20 1 := F 20 1 (by unfold SCA; omega)
  have q := c1.1
  refine ⟨c1.on F, ?_, c3, ?_, ?_, ?_⟩
  · rw [e1, F _ 5 (by unfold SCA; omega)]; exact c2
  · intro k k0 k1; rw [e1, F _ k (by unfold SCA; omega)]; exact c4 k k0 k1
  · intro k k0 k1; rw [e1, F _ k (by unfold SCA; omega)]; exact c5 k k0 k1
  · intro k k0 k1; rw [e1, F _ k (by unfold SCA; omega)]; exact c6 k k0 k1
theorem CtM.on (C : CtM h n W ru pd wd) (F : On SCA h h') : CtM h' n W ru pd wd := by
  obtain ⟨c1, c2, c3, c4, c5, c6, c7⟩ := C
  refine ⟨?_, c2, ?_, c4, ?_, ?_, ?_⟩
  · rw [F 2000 26 (by unfold SCA; omega)]; exact c1
  · rw [F 2000 27 (by unfold SCA; omega)]; exact c3
  · intro k k0 k1; rw [F 2018 k (by unfold SCA; omega)]; exact c5 k k0 k1
  · intro k k0 k1; rw [F 2020 k (by unfold SCA; omega)]; exact c6 k k0 k1
  · intro k k0 k1; rw [F 2022 k (by unfold SCA; omega)]; exact c7 k k0 k1
def isP (n : Nat) (a : Int) : Prop := 0 ≤ a ∧ a < (n : Int)
theorem c_isP0 (C : CoA h n) {a : Int} (ha : ir a) (q : ¬ isP n a) : Cc_isPerson h 20 a = some (0, h) := by
  have n6 := C.2.2
  unfold isP at q
  unfold Cc_isPerson
  rw [ri ha]
  by_cases c : a < 0
  · rw [if_pos c]
  · rw [if_neg c, cC_s SH20' rfl, cC_s C.sh rfl, C.2.1, w32_n (x := (n : Int)) (by omega) (by omega), if_neg (by omega)]
theorem c_isP1 (C : CoA h n) {a : Int} (ha : ir a) (q : isP n a) : Cc_isPerson h 20 a = some (1, h) := by
  have n6 := C.2.2
  unfold isP at q
  unfold Cc_isPerson
  rw [ri ha, if_neg (by omega), cC_s SH20' rfl, cC_s C.sh rfl, C.2.1, w32_n (x := (n : Int)) (by omega) (by omega), if_pos (by omega)]
theorem m_isP0 (c26 : h 2000 26 = (n : Int)) (n6 : n ≤ 6) {a : Int} (ha : ir a) (q : ¬ isP n a) : Md_isPerson h 2000 a = some (0, h) := by
  unfold isP at q
  unfold Md_isPerson
  rw [ri ha]
  by_cases c : a < 0
  · rw [if_pos c]
  · rw [if_neg c, cC_s SH2000' rfl, c26, w32_n (x := (n : Int)) (by omega) (by omega), if_neg (by omega)]
theorem m_isP1 (c26 : h 2000 26 = (n : Int)) (n6 : n ≤ 6) {a : Int} (ha : ir a) (q : isP n a) : Md_isPerson h 2000 a = some (1, h) := by
  unfold isP at q
  unfold Md_isPerson
  rw [ri ha, if_neg (by omega), cC_s SH2000' rfl, c26, w32_n (x := (n : Int)) (by omega) (by omega), if_pos (by omega)]
def isT (n : Nat) (a b : Int) : Prop := isP n a ∧ isP n b ∧ a ≠ b
theorem isPd (n : Nat) (a : Int) : isP n a ∨ ¬ isP n a := Classical.em _
theorem c_T1 (C : CoA h n) {a b : Int} (ha : ir a) (hb : ir b) (q : isT n a b) : Cc_areTwo h 20 a b = some (1, h) := by
  unfold Cc_areTwo
  rw [cC_s SH20' rfl, c_isP1 C ha q.1, cl_s, if_neg (by decide), c_isP1 C hb q.2.1, cl_s, if_neg (by decide), ri ha, ri hb, if_neg q.2.2]
theorem c_T0 (C : CoA h n) {a b : Int} (ha : ir a) (hb : ir b) (q : ¬ isT n a b) : Cc_areTwo h 20 a b = some (0, h) := by
  unfold Cc_areTwo
  rw [cC_s SH20' rfl]
  by_cases q1 : isP n a
  · rw [c_isP1 C ha q1, cl_s, if_neg (by decide)]
    by_cases q2 : isP n b
    · rw [c_isP1 C hb q2, cl_s, if_neg (by decide), ri ha, ri hb]
      by_cases e : a = b
      · rw [if_pos e]
      · exact absurd ⟨q1, q2, e⟩ q
    · rw [c_isP0 C hb q2, cl_s, if_pos (by decide)]
  · rw [c_isP0 C ha q1, cl_s, if_pos (by decide)]
theorem m_T1 (c26 : h 2000 26 = (n : Int)) (n6 : n ≤ 6) {a b : Int} (ha : ir a) (hb : ir b) (q : isT n a b) : Md_areTwo h 2000 a b = some (1, h) := by
  unfold Md_areTwo
  rw [cC_s SH2000' rfl, m_isP1 c26 n6 ha q.1, cl_s, if_neg (by decide), m_isP1 c26 n6 hb q.2.1, cl_s, if_neg (by decide), ri ha, ri hb, if_neg q.2.2]
theorem m_T0 (c26 : h 2000 26 = (n : Int)) (n6 : n ≤ 6) {a b : Int} (ha : ir a) (hb : ir b) (q : ¬ isT n a b) : Md_areTwo h 2000 a b = some (0, h) := by
  unfold Md_areTwo
  rw [cC_s SH2000' rfl]
  by_cases q1 : isP n a
  · rw [m_isP1 c26 n6 ha q1, cl_s, if_neg (by decide)]
    by_cases q2 : isP n b
    · rw [m_isP1 c26 n6 hb q2, cl_s, if_neg (by decide), ri ha, ri hb]
      by_cases e : a = b
      · rw [if_pos e]
      · exact absurd ⟨q1, q2, e⟩ q
    · rw [m_isP0 c26 n6 hb q2, cl_s, if_pos (by decide)]
  · rw [m_isP0 c26 n6 ha q1, cl_s, if_pos (by decide)]
theorem lcm_l {x y : Int} (hx : ir x) (hy : ir y) : (w32 (lcm x y) < 0 ↔ x < y) ∧ (0 < w32 (lcm x y) ↔ y < x) := by
  have ex : w64 x = x := w64_id (by have := hx.1; omega) (by have := hx.2; omega)
  have ey : w64 y = y := w64_id (by have := hy.1; omega) (by have := hy.2; omega)
  unfold lcm
  rw [ex, ey]
  by_cases c : y < x
  · rw [if_pos c]
    exact ⟨⟨fun q => absurd q (by decide), fun q => by omega⟩, ⟨fun _ => c, fun _ => by decide⟩⟩
  · rw [if_neg c]
    by_cases c2 : x = y
    · rw [if_pos c2]
      exact ⟨⟨fun q => absurd q (by decide), fun q => by omega⟩, ⟨fun q => absurd q (by decide), fun q => absurd q c⟩⟩
    · rw [if_neg c2]
      exact ⟨⟨fun _ => by omega, fun _ => by decide⟩, ⟨fun q => absurd q (by decide), fun q => absurd q c⟩⟩
theorem isIn1 {a lo hi : Int} (ha : ir a) (hl : ir lo) (hh : ir hi) (q : lo ≤ a ∧ a ≤ hi) : Md_isIn h a lo hi = some (1, h) := by
  unfold Md_isIn
  rw [if_neg (fun z => by have := (lcm_l ha hl).1.mp z; omega), if_neg (fun z => by have := (lcm_l ha hh).2.mp z; omega)]
theorem isIn0 {a lo hi : Int} (ha : ir a) (hl : ir lo) (hh : ir hi) (q : ¬ (lo ≤ a ∧ a ≤ hi)) : Md_isIn h a lo hi = some (0, h) := by
  unfold Md_isIn
  by_cases c : a < lo
  · rw [if_pos ((lcm_l ha hl).1.mpr c)]
  · rw [if_neg (fun z => c ((lcm_l ha hl).1.mp z)), if_pos ((lcm_l ha hh).2.mpr (by omega))]
/-- OWED -/
theorem owed_e (C : CoA h n) (A : StA h 110 n f) (M : StM h 2032 n f) {a b : Int} (ha : ir a) (hb : ir b) : ∃ r : Int, Cc_owed h 20 a b = some (r, h) ∧ Md_owed h 2000 a b = some (r, up h 2000 0 0) := by
  have M0 := M.on t0_sc
  have n6 := C.2.2
  unfold Cc_owed Md_owed
  rw [cC_s SH20' rfl, cC_s SH2000' rfl, pu_s]
  by_cases q : isT n a b
  · have q' := q
    obtain ⟨⟨a0, a1⟩, ⟨b0, b1⟩, -⟩ := q'
    rw [c_T1 C ha hb q, cl_s, if_neg (by decide), cC_s (IsS_sh A.1).1 rfl, St_owes_e A a0 (by omega) b0 (by omega), cl_s, m_T1 M0.2.1 n6 ha hb q, cl_s, if_neg (by decide), Md_owes_e M0 a0 (by omega) b0 (by omega), cl_s]
    exact ⟨_, rfl, rfl⟩
  · rw [c_T0 C ha hb q, cl_s, if_pos (by decide), m_T0 M0.2.1 n6 ha hb q, cl_s, if_pos (by decide)]
    exact ⟨_, rfl, rfl⟩
end PureO
