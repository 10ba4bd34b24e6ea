section PureDiary
/-! THE DIARY: one note against three numbers -/
theorem shl_9t : ∀ q : Nat, q < 64 → ∀ r : Nat, r < 64 → ishl ((64 * q + r : Nat) : Int) 9 = ((512 * (64 * q + r) : Nat) : Int) := by decide +kernel
theorem shl_9 (x : Nat) (h : x < 4096) : ishl (x : Int) 9 = ((512 * x : Nat) : Int) := by
  have t := shl_9t (x / 64) (by omega) (x % 64) (by omega)
  have e : 64 * (x / 64) + x % 64 = x := by omega
  rw [e] at t
  exact t
theorem shl_3 : ∀ x : Nat, x < 64 → ishl (x : Int) 3 = ((8 * x : Nat) : Int) := by decide +kernel
theorem shr_3 {N : Nat} (h : N < 2147483648) : ishr (N : Int) 3 = ((N / 8 : Nat) : Int) := by
  have e : (Int32.ofInt 3 &&& 31).toBitVec.smod 32 = 3#32 := by decide
  have x : (Int32.ofInt (N : Int)).toInt = (N : Int) := by rw [Int32.ofInt_eq_ofNat, Int32.toInt_ofNat_of_lt (by omega)]
  have g : ishr (N : Int) 3 = ((Int32.ofInt (N : Int)).toBitVec.sshiftRight' ((Int32.ofInt 3 &&& 31).toBitVec.smod 32)).toInt := rfl
  have g2 : ((Int32.ofInt (N : Int)).toBitVec.sshiftRight' 3#32).toInt = (Int32.ofInt (N : Int)).toInt >>> 3 := BitVec.toInt_sshiftRight (n := 3)
  rw [g, e, g2, x, Int.shiftRight_eq_div_pow]
  omega
theorem shr_9 {N : Nat} (h : N < 2147483648) : ishr (N : Int) 9 = ((N / 512 : Nat) : Int) := by
  have e : (Int32.ofInt 9 &&& 31).toBitVec.smod 32 = 9#32 := by decide
  have x : (Int32.ofInt (N : Int)).toInt = (N : Int) := by rw [Int32.ofInt_eq_ofNat, Int32.toInt_ofNat_of_lt (by omega)]
  have g : ishr (N : Int) 9 = ((Int32.ofInt (N : Int)).toBitVec.sshiftRight' ((Int32.ofInt 9 &&& 31).toBitVec.smod 32)).toInt := rfl
  have g2 : ((Int32.ofInt (N : Int)).toBitVec.sshiftRight' 9#32).toInt = (Int32.ofInt (N : Int)).toInt >>> 9 := BitVec.toInt_sshiftRight (n := 9)
  rw [g, e, g2, x, Int.shiftRight_eq_div_pow]
  omega
theorem note_n {D b s : Nat} (hD : D < 4096) (hb : b < 64) (hs : s < 8) : EN (ior (ior (ishl (D : Int) 9) (ishl (b : Int) 3)) (s : Int)) (s : Int) (b : Int) (D : Int) := by
  have o1 : 512 * D ||| 8 * b = 512 * D + 8 * b := (Nat.two_pow_add_eq_or_of_lt (i := 9) (b := 8 * b) (by omega) D).symm
  have o2 : 512 * D + 8 * b ||| s = 512 * D + 8 * b + s := by
    have q := (Nat.two_pow_add_eq_or_of_lt (i := 3) (b := s) (by omega) (64 * D + b)).symm
    have e : 2 ^ 3 * (64 * D + b) = 512 * D + 8 * b := by omega
    rw [e] at q
    exact q
  have N : ior (ior (ishl (D : Int) 9) (ishl (b : Int) 3)) (s : Int) = ((512 * D + 8 * b + s : Nat) : Int) := by
    rw [shl_9 D hD, shl_3 b hb, ior_n (by omega) (by omega), o1, ior_n (by omega) (by omega), o2]
  have a7 : ∀ x : Nat, x &&& 7 = x % 8 := fun x => Nat.and_two_pow_sub_one_eq_mod x 3
  have a63 : ∀ x : Nat, x &&& 63 = x % 64 := fun x => Nat.and_two_pow_sub_one_eq_mod x 6
  have i7 : iand ((512 * D + 8 * b + s : Nat) : Int) 7 = (((512 * D + 8 * b + s) &&& 7 : Nat) : Int) := iand_n (b := 7) (by omega)
  have i63 : iand (((512 * D + 8 * b + s) / 8 : Nat) : Int) 63 = (((512 * D + 8 * b + s) / 8 &&& 63 : Nat) : Int) := iand_n (b := 63) (by omega)
  unfold EN
  rw [N, i7, shr_3 (by omega), i63, shr_9 (by omega), a7, a63]
  refine ⟨?_, ?_, ?_⟩
  · have : (512 * D + 8 * b + s) % 8 = s := by omega
    rw [this]
  · have : (512 * D + 8 * b + s) / 8 % 64 = b := by omega
    rw [this]
  · have : (512 * D + 8 * b + s) / 512 = D := by omega
    rw [this]
theorem psC_b {n : Nat} {bed : Int} {f : Int → Int} (n6 : n ≤ 6) : 0 ≤ psC n bed f ∧ psC n bed f ≤ 6 := by
  have key : ∀ m : Nat, 0 ≤ fo (cntS (bkR n bed f)) m 0 ∧ fo (cntS (bkR n bed f)) m 0 ≤ (m : Int) := by
    intro m
    induction m with
    | zero => exact ⟨Int.le_refl _, Int.le_refl _⟩
    | succ m ih =>
      show 0 ≤ cntS (bkR n bed f) m (fo (cntS (bkR n bed f)) m 0) ∧ cntS (bkR n bed f) m (fo (cntS (bkR n bed f)) m 0) ≤ ((m + 1 : Nat) : Int)
      unfold cntS
      by_cases c : bkR n bed f (m : Int) = 9
      · rw [if_pos c]; unfold cntS at ih; omega
      · rw [if_neg c]; unfold cntS at ih; omega
  have := key n
  unfold psC
  omega
theorem psB_b {n : Nat} {bed : Int} {f : Int → Int} (n6 : n ≤ 6) : ∃ x : Nat, (psR n bed f).2 = (x : Int) ∧ x < 64 := by
  have key : ∀ m : Nat, m ≤ 6 → ∃ x : Nat, (fo (brT n (bkR n bed f)) m (sitA n bed f, 0)).2 = (x : Int) ∧ x < 2 ^ m := by
    intro m
    induction m with
    | zero => exact fun _ => ⟨0, rfl, by decide⟩
    | succ m ih =>
      intro h6
      obtain ⟨x, e, hx⟩ := ih (by omega)
      have pw : 2 ^ (m + 1) = 2 * 2 ^ m := Nat.pow_succ'
      generalize hst : fo (brT n (bkR n bed f)) m (sitA n bed f, 0) = st at e
      have es : fo (brT n (bkR n bed f)) (m + 1) (sitA n bed f, 0) = brT n (bkR n bed f) m st := by rw [← hst]; rfl
      rw [es]
      unfold brT brS
      by_cases c : bkR n bed f (m : Int) = 9
      · rw [if_pos c]
        by_cases z : st.1 (36 + 2 * (m : Int)) < 9
        · rw [if_pos z]; exact ⟨x, e, by omega⟩
        · rw [if_neg z]
          obtain ⟨b1, b2, -⟩ := hb_or m (by omega) x hx
          refine ⟨(ior st.2 (ishl 1 (m : Int))).toNat, ?_, ?_⟩
          · show ior st.2 (ishl 1 (m : Int)) = _
            rw [e]; omega
          · rw [e]; omega
      · rw [if_neg c]; exact ⟨x, e, by omega⟩
  obtain ⟨x, e, hx⟩ := key n n6
  have : 2 ^ n ≤ 2 ^ 6 := Nat.pow_le_pow_right (by decide) n6
  exact ⟨x, e, by omega⟩
section K
variable {h h' : Hp} {n : Nat} {f : Int → Int} {bed : Int}
/-- the class writes an evening down -/
theorem write_e (A : StA h 110 n f) (e1 : 0 ≤ f 51 ∧ f 51 ≤ 999) {s b : Int} (h9 : h 110 9 = s) (h10 : h 110 10 = b) (hs : 0 ≤ s ∧ s < 8) (hb : 0 ≤ b ∧ b < 64) : ∃ v, Lg_write h 60 110 = some (0, up h 61 (f 51) v) ∧ EN v s b (allD n f) := by
  have e8 := sta_e A
  have d := allD_b A.2.2.2
  obtain ⟨D, hD⟩ : ∃ D : Nat, allD n f = (D : Int) := ⟨(allD n f).toNat, by omega⟩
  obtain ⟨S, hS⟩ : ∃ S : Nat, s = (S : Int) := ⟨s.toNat, by omega⟩
  obtain ⟨B, hB⟩ : ∃ B : Nat, b = (B : Int) := ⟨b.toNat, by omega⟩
  have en := note_n (D := D) (b := B) (s := S) (by omega) (by omega) (by omega)
  refine ⟨_, ?_, by rw [hD, hS, hB]; exact en⟩
  unfold Lg_write
  rw [cC_s SH60 rfl, cC_s (IsS_sh A.1).1 rfl, St_allDebt_e A, cl_s, e8, h9, h10, put_eq SH61 (by decide) e1.1 (by omega) (by decide), cl_s, hD, hS, hB]
/-- the log behind one more evening -/
theorem lg_step {nt nt' : Int → Int} {w e a b c : Int} (I : LG nt (h w) e) (e0 : 0 ≤ e) (L : LogStep h h' w a b c) (v : EN (nt' (e + 1)) a b c) (k : ∀ i : Int, i ≤ e → nt' i = nt i) : LG nt' (h' w) (e + 1) := by
  obtain ⟨i1, i2⟩ := I
  obtain ⟨l1, ⟨l2, l3, l4⟩, l5⟩ := L
  refine ⟨by rw [l1, i1]; omega, fun i i0 i1' => ?_⟩
  have eg : ∀ (g : Hp) (i j : Int), lgF (g w) i j = lgv g w i j := fun _ _ _ => rfl
  rw [eg, eg, eg]
  by_cases z : i = 0
  · subst z
    rw [l2, l3, l4, Int.sub_zero]
    exact v
  · have e1 : i - 1 + 1 = i := by omega
    have t := fun j (j0 : 0 ≤ j) (j1 : j < 3) => l5 (i - 1) j (by omega) (by rw [l1, i1]; omega) j0 j1
    rw [e1] at t
    rw [t 0 (by decide) (by decide), t 1 (by decide) (by decide), t 2 (by decide) (by decide), show e + 1 - i = e - (i - 1) by omega, k _ (by omega)]
    exact i2 (i - 1) (by omega) (by omega)
end K
end PureDiary
