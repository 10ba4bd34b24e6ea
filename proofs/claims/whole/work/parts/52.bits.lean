section PureBits
/-! bits of numbers as Nat's; how many wrongs of one are sentenced -/
theorem iand_n {a b : Nat} (ha : a < 2147483648) : iand (a : Int) (b : Int) = ((a &&& b : Nat) : Int) := by
  unfold iand
  rw [Int32.ofInt_eq_ofNat, Int32.ofInt_eq_ofNat]
  have e : Int32.ofNat a &&& Int32.ofNat b = Int32.ofNat (a &&& b) := Int32.toBitVec_inj.1 (by
    show BitVec.ofNat 32 a &&& BitVec.ofNat 32 b = BitVec.ofNat 32 (a &&& b)
    rw [BitVec.ofNat_and])
  have l : a &&& b ≤ a := Nat.and_le_left
  rw [e, Int32.toInt_ofNat_of_lt (by omega)]
theorem ior_n {a b : Nat} (ha : a < 2147483648) (hb : b < 2147483648) : ior (a : Int) (b : Int) = ((a ||| b : Nat) : Int) := by
  unfold ior
  rw [Int32.ofInt_eq_ofNat, Int32.ofInt_eq_ofNat]
  have e : Int32.ofNat a ||| Int32.ofNat b = Int32.ofNat (a ||| b) := Int32.toBitVec_inj.1 (by
    show BitVec.ofNat 32 a ||| BitVec.ofNat 32 b = BitVec.ofNat 32 (a ||| b)
    rw [BitVec.ofNat_or])
  have l : a ||| b < 2 ^ 31 := Nat.or_lt_two_pow (by omega) (by omega)
  rw [e, Int32.toInt_ofNat_of_lt l]
theorem shl_8 : ∀ i : Nat, i < 9 → ishl 1 (i : Int) = ((2 ^ i : Nat) : Int) := by decide +kernel
theorem bit_8 : ∀ x : Nat, x < 256 → ∀ i : Nat, i < 8 → (w32 (iand (ishr (x : Int) (i : Int)) 1) = 1 ↔ x.testBit i = true) ∧ (iand (ishr (x : Int) (i : Int)) 1 = if x.testBit i = true then 1 else 0) := by decide +kernel
def bsm (x : Nat) : Nat → Int
  | 0 => 0
  | i + 1 => bsm x i + (if x.testBit i = true then 1 else 0)
theorem pcv_8 : ∀ x : Nat, x < 256 → pcv (x : Int) = bsm x 8 := by decide +kernel
theorem bsm_hi {x n : Nat} (h : x < 2 ^ n) : ∀ d, bsm x (n + d) = bsm x n
  | 0 => rfl
  | d + 1 => by
    show bsm x (n + d) + (if x.testBit (n + d) = true then 1 else 0) = bsm x n
    have e : x.testBit (n + d) = false := Nat.testBit_lt_two_pow (Nat.lt_of_lt_of_le h (Nat.pow_le_pow_right (by decide) (by omega)))
    rw [bsm_hi h d, e, if_neg (by decide), Int.add_zero]
section M
variable {h h' : Hp} {n W : Nat} {f ru pd wd : Int → Int}
theorem p2_8 {W : Nat} (h : W ≤ 8) : 2 ^ W ≤ 256 := Nat.pow_le_pow_right (by decide) h
theorem wb_bits {j a : Int} : ∀ W : Nat, W ≤ 8 → ∃ m : Nat, m < 2 ^ W ∧ fo (wbI wd j a) W 0 = (m : Int) ∧ ∀ i, i < W → (m.testBit i = true ↔ w32 (wd (3 * (i : Int) + j)) = w32 a)
  | 0, _ => ⟨0, by decide, rfl, fun i hi => absurd hi (by omega)⟩
  | W + 1, hW => by
    obtain ⟨m, m1, m2, m3⟩ := wb_bits (j := j) (a := a) W (by omega)
    have hp := p2_8 (W := W) (by omega)
    have e2 : 2 ^ (W + 1) = 2 ^ W + 2 ^ W := by rw [Nat.pow_succ]; omega
    have ew : fo (wbI wd j a) (W + 1) 0 = wbI wd j a W (fo (wbI wd j a) W 0) := rfl
    rw [ew, m2]
    unfold wbI
    by_cases c : w32 (wd (3 * (W : Int) + j)) = w32 a
    · rw [if_pos c, shl_8 W (by omega), ior_n (by omega) (by omega)]
      refine ⟨m ||| 2 ^ W, Nat.or_lt_two_pow (by omega) (by omega), rfl, fun i hi => ?_⟩
      rw [Nat.testBit_or, Nat.testBit_two_pow]
      by_cases e : i = W
      · subst e
        rw [decide_eq_true (by rfl), Bool.or_true]
        exact ⟨fun _ => c, fun _ => rfl⟩
      · rw [decide_eq_false (by omega), Bool.or_false]
        exact m3 i (by omega)
    · rw [if_neg c, ior_0 ⟨by omega, by omega⟩]
      refine ⟨m, by omega, rfl, fun i hi => ?_⟩
      by_cases e : i = W
      · subst e
        rw [Nat.testBit_lt_two_pow m1]
        exact ⟨fun z => absurd z (by decide), fun z => absurd z c⟩
      · exact m3 i (by omega)
/-- how many wrongs of one are sentenced -/
def scI (wd : Int → Int) (g a : Int) (i : Nat) : Int := if w32 (wd (3 * (i : Int))) = w32 a then (if w32 (iand (ishr g (i : Int)) 1) = 1 then 1 else 0) else 0
def scV (W : Nat) (wd : Int → Int) (g a : Int) : Int := sm (scI wd g a) W
theorem scI_b (g a : Int) (i : Nat) : 0 ≤ scI wd g a i ∧ scI wd g a i ≤ 1 := by
  unfold scI
  by_cases c : w32 (wd (3 * (i : Int))) = w32 a
  · rw [if_pos c]
    by_cases d : w32 (iand (ishr g (i : Int)) 1) = 1
    · rw [if_pos d]; omega
    · rw [if_neg d]; omega
  · rw [if_neg c]; omega
theorem scV_b (hW : W ≤ 8) (g a : Int) : 0 ≤ scV W wd g a ∧ scV W wd g a ≤ 8 := by
  have := sm_b (f := scI wd g a) (m := 1) W (fun i _ => scI_b g a i)
  unfold scV
  omega
theorem sc_pc (hW : W ≤ 8) {g a : Int} (g0 : 0 ≤ g) (g1 : g < ((2 ^ W : Nat) : Int)) : pcv (iand (wbV W wd 0 a) g) = scV W wd g a := by
  obtain ⟨m, m1, m2, m3⟩ := wb_bits (wd := wd) (j := 0) (a := a) W hW
  have hp := p2_8 hW
  obtain ⟨s, rfl⟩ : ∃ s : Nat, g = (s : Int) := ⟨g.toNat, by omega⟩
  have hs : s < 256 := by omega
  have hl : m &&& s < 2 ^ W := Nat.and_lt_two_pow m (by omega)
  unfold wbV
  rw [m2, iand_n (by omega), pcv_8 _ (by omega)]
  have e8 : W + (8 - W) = 8 := by omega
  rw [← e8, bsm_hi hl (8 - W)]
  have key : ∀ k, k ≤ W → bsm (m &&& s) k = sm (scI wd (s : Int) a) k := by
    intro k
    induction k with
    | zero => intro _; rfl
    | succ k ih =>
      intro hk
      show bsm (m &&& s) k + (if (m &&& s).testBit k = true then 1 else 0) = sm (scI wd (s : Int) a) k + scI wd (s : Int) a k
      rw [ih (by omega), Nat.testBit_and]
      have b := (bit_8 s hs k (by omega)).1
      have mk := m3 k (by omega)
      rw [Int.add_zero] at mk
      unfold scI
      by_cases c : w32 (wd (3 * (k : Int))) = w32 a
      · rw [if_pos c, mk.mpr c, Bool.true_and]
        by_cases d : w32 (iand (ishr (s : Int) (k : Int)) 1) = 1
        · rw [if_pos d, if_pos (b.mp d)]
        · rw [if_neg d, if_neg (fun z => d (b.mpr z))]
      · have mf : m.testBit k = false := by
          cases e : m.testBit k with
          | false => rfl
          | true => exact absurd (mk.mp e) c
        rw [if_neg c, mf, Bool.false_and, if_neg (by decide)]
  exact key W (Nat.le_refl _)
theorem m_sent (C : CtM h n W ru pd wd) {w : Int} (M : StM h w n f) (a : Int) : Md_sentencedOf h 2000 w a = some (scV W wd (f 48) a, h) := by
  have W8 := C.2.2.2.1
  obtain ⟨sw, w0, w1⟩ := M.w2
  unfold Md_sentencedOf Md_sentencedOf_b5
  refine itr_run (fun i : Nat => (h, 2000, w, a, sm (scI wd (f 48) a) i, (i : Int))) (n := W) ?_ ?_ (FU_gt (by omega))
  · intro i hi k
    show Md_sentencedOf_b5_body k h 2000 w a (sm (scI wd (f 48) a) i) (i : Int) = k (h, 2000, w, a, sm (scI wd (f 48) a) i + scI wd (f 48) a i, (i : Int) + 1)
    generalize sm (scI wd (f 48) a) i = x
    unfold Md_sentencedOf_b5_body scI
    rw [cC_s SH2000' rfl, C.2.2.1, w32_n (x := (i : Int)) (by omega) (by omega), w32_n (x := (W : Int)) (by omega) (by omega), if_pos (by omega), cX_s SH2022 (by omega) (by omega) (by omega), rd_ge (by decide), w32_n (x := 3 * (i : Int)) (by omega) (by omega), C.2.2.2.2.2.2 _ (by omega) (by omega)]
    by_cases c : w32 (wd (3 * (i : Int))) = w32 a
    · rw [if_pos c, if_pos c, cX_s sw (by omega) (by omega) (by omega), rd_ge (by omega), M.rd (by omega) (by omega), Md_has_p, cl_s]
      by_cases d : w32 (iand (ishr (f 48) (i : Int)) 1) = 1
      · rw [if_pos d, if_neg (show ¬ w32 1 = 0 by decide), bd_s]
      · rw [if_neg d, if_pos (show w32 0 = 0 by decide), bd_s]
    · rw [if_neg c, if_neg c, bd_s]
  · intro k
    show Md_sentencedOf_b5_body k h 2000 w a (sm (scI wd (f 48) a) W) (W : Int) = _
    unfold Md_sentencedOf_b5_body
    rw [cC_s SH2000' rfl, C.2.2.1, if_neg (Int.lt_irrefl _)]
    rfl
end M
end PureBits
