section PureSeats
/-! MATCHED, FIRM: the rows in their order; the class's way to a row's seats -/
theorem SH70' : SH 70 = (5, 0) := by decide +kernel
theorem SH71' : SH 71 = (100, 76) := by decide +kernel
theorem SH72' : SH 72 = (100, 6) := by decide +kernel
/-- each with another at hand, or alone -/
def seOK (n : Nat) (st : Int → Int) : Prop := ∀ k : Nat, k < n → st (k : Int) = 9 ∨ (0 ≤ st (k : Int) ∧ st (k : Int) < (n : Int))
theorem seL_ok : ∀ n : Nat, n < 7 → ∀ st ∈ seL n, ∀ k : Nat, k < n → st (k : Int) = 9 ∨ (0 ≤ st (k : Int) ∧ st (k : Int) < (n : Int)) := by decide +kernel
theorem seL_len : ∀ n : Nat, n < 7 → (seL n).length ≤ 76 := by decide +kernel
theorem seL_up : ∀ n : Nat, n < 7 → ((seL n).map (rowN n)).Pairwise (fun a b => a < b) := by decide +kernel
theorem seL_one : ∀ n : Nat, n < 7 → ∃ st ∈ seL n, ∀ k : Nat, k < n → st (k : Int) = 9 := by decide +kernel
theorem rowN_s (m : Nat) (st : Int → Int) : rowN (m + 1) st = rowN m st * 10 + st (m : Int) := rfl
theorem rowN_b {n : Nat} (n6 : n ≤ 6) {st : Int → Int} (K : seOK n st) : ∀ m : Nat, m ≤ n → 0 ≤ rowN m st ∧ rowN m st < ((10 ^ m : Nat) : Int) := by
  intro m
  induction m with
  | zero => exact fun _ => ⟨Int.le_refl 0, show (0 : Int) < ((1 : Nat) : Int) by decide⟩
  | succ m ih =>
    intro hm
    have i := ih (by omega)
    have k := K m (by omega)
    have pw : 10 ^ (m + 1) = 10 * 10 ^ m := Nat.pow_succ'
    rw [rowN_s, pw]
    omega
theorem rowN_c {n : Nat} {st st' : Int → Int} (E : ∀ k : Nat, k < n → st (k : Int) = st' (k : Int)) : rowN n st = rowN n st' := by
  have key : ∀ m : Nat, m ≤ n → rowN m st = rowN m st' := by
    intro m
    induction m with
    | zero => exact fun _ => rfl
    | succ m ih =>
      intro hm
      rw [rowN_s, rowN_s, ih (by omega), E m (by omega)]
  exact key n (Nat.le_refl _)
section Q
variable {h : Hp} {n : Nat} {st : Int → Int}
theorem rowAt_e {i : Nat} (hi : i < 76) : Rw_rowAt h 70 (i : Int) = some (h 71 (i : Int), h) := by
  unfold Rw_rowAt
  rw [cC_s SH70' rfl, at_eq SH71' (by decide) (by omega) (by omega) (by decide), cl_s]
theorem seatsOf_e (n6 : n ≤ 6) (h3 : h 70 3 = (n : Int)) (K : seOK n st) {i : Nat} (hi : i < 76) (hr : h 71 (i : Int) = rowN n st) : ∃ h', Rw_seatsOf h 70 (i : Int) = some (72, h') ∧ On (fun a _ => a = 72) h h' ∧ ∀ k : Nat, k < n → h' 72 (k : Int) = st (k : Int) := by
  have Wp : wp (Rw_seatsOf h 70 (i : Int)) (fun r h' => r = 72 ∧ On (fun a _ => a = 72) h h' ∧ ∀ k : Nat, k < n → h' 72 (k : Int) = st (k : Int)) := by
    have d10 : ∀ A : Option (Int × Hp), cD 10 A = A := fun A => if_neg (by decide)
    have w10 : w32 10 = 10 := by decide
    unfold Rw_seatsOf
    rw [cC_s SH70' rfl, rowAt_e hi, cl_s, h3, bd_s, hr]
    unfold Rw_seatsOf_b13
    refine itr_wp (fun j σ => ∃ h2 : Hp, σ = (h2, 70, rowN (n - j) st, (n : Int) - 1 - (j : Int)) ∧ On (fun a _ => a = 72) h h2 ∧ ∀ k : Nat, n - j ≤ k → k < n → h2 72 (k : Int) = st (k : Int)) n ?_ ?_ (FU_gt (by omega)) ⟨h, by rw [show (n : Int) - 1 - ((0 : Nat) : Int) = (n : Int) - 1 by omega]; rfl, On.rf, fun k k0 k1 => absurd k1 (by omega)⟩
    · rintro j σ kk hj ⟨h2, rfl, F2, T2⟩ KK
      show wp (Rw_seatsOf_b13_body kk h2 70 (rowN (n - j) st) ((n : Int) - 1 - (j : Int))) _
      obtain ⟨m, hm⟩ : ∃ m : Nat, n - j = m + 1 := ⟨n - j - 1, by omega⟩
      have em : (n : Int) - 1 - (j : Int) = (m : Int) := by omega
      have bm := rowN_b n6 K m (by omega)
      have bs := rowN_b n6 K (m + 1) (by omega)
      have p6 : 10 ^ (m + 1) ≤ 10 ^ 6 := Nat.pow_le_pow_right (by decide) (by omega)
      have km := K m (by omega)
      have s9 : 0 ≤ st (m : Int) ∧ st (m : Int) ≤ 9 := by omega
      have e1 : (rowN m st * 10 + st (m : Int)).tmod 10 = st (m : Int) := by
        rw [Int.tmod_eq_emod_of_nonneg (by omega)]; omega
      have e2 : (rowN m st * 10 + st (m : Int)).tdiv 10 = rowN m st := by
        rw [Int.tdiv_eq_ediv_of_nonneg (by omega)]; omega
      rw [hm, em]
      rw [rowN_s] at bs
      unfold Rw_seatsOf_b13_body
      rw [rowN_s, w32_n (x := (m : Int)) (by omega) (by omega), if_neg (by omega), cC_s SH70' rfl, d10, w32_n (x := rowN m st * 10 + st (m : Int)) (by omega) (by omega), w10, e1, put_eq SH72' (by decide) (by omega) (by omega) (by decide), cl_s, d10, e2, bd_s]
      refine KK _ ⟨up h2 72 (m : Int) (st (m : Int)), ?_, F2.tr (On.up rfl), fun k k0 k1 => ?_⟩
      · rw [show n - (j + 1) = m by omega, show (n : Int) - 1 - ((j + 1 : Nat) : Int) = (m : Int) + -1 by omega]
      · by_cases z : k = m
        · rw [z, up_at]
        · rw [up_off (by omega)]; exact T2 k (by omega) k1
    · rintro σ kk ⟨h2, rfl, F2, T2⟩
      show wp (Rw_seatsOf_b13_body kk h2 70 (rowN (n - n) st) ((n : Int) - 1 - (n : Int))) _
      unfold Rw_seatsOf_b13_body
      rw [show (n : Int) - 1 - (n : Int) = -1 by omega, if_pos (by decide), cC_s SH70' rfl]
      exact wp_i ⟨rfl, F2, fun k hk => T2 k (by omega) hk⟩
  obtain ⟨r, h', e, rfl, q⟩ := Wp
  exact ⟨h', e, q⟩
end Q
end PureSeats
