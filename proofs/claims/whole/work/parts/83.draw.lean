section PureDraw
/-! YEARS: the draws -/
def lcg (x : Int) : Int := (x * 6364136223846793005) + 1442695040888963407
def drV (s m : Int) : Int := (w64 (lushr s 33)).tmod (w64 (w32 m))
theorem c_draw (h : Hp) {m : Int} (m0 : 1 ≤ m) (m1 : m ≤ 30) : Cc_draw h 20 m = some (drV (lcg (h 20 19)) m, up h 20 19 (lcg (h 20 19))) := by
  have e : ∀ A : Option (Int × Hp), cDl (w32 m) A = A := fun A => if_neg (by rw [w32_n (x := m) (by omega) (by omega)]; unfold w64; omega)
  unfold Cc_draw
  rw [cC_s SH20' rfl, pu_s, up_at, if_pos (by rw [w32_n (x := m) (by omega) (by omega)]; omega), e]
  rfl
theorem m_draw (h : Hp) {m : Int} (m0 : 1 ≤ m) (m1 : m ≤ 30) : Md_draw h 2000 m = some (drV (lcg (h 2000 43)) m, up h 2000 43 (lcg (h 2000 43))) := by
  have e : ∀ A : Option (Int × Hp), cDl (w32 m) A = A := fun A => if_neg (by rw [w32_n (x := m) (by omega) (by omega)]; unfold w64; omega)
  unfold Md_draw
  rw [cC_s SH2000' rfl, pu_s, up_at, e]
  rfl
theorem lushr_b (s : Int) : 0 ≤ lushr s 33 ∧ lushr s 33 < 2147483648 := by
  have e : ((Int32.ofInt 33).toInt64.toUInt64 &&& Int64.toUInt64 63) = 33 := by decide
  unfold lushr
  rw [e]
  generalize (Int64.ofInt s).toUInt64 = u
  have t : (u >>> 33).toNat = u.toNat / 2 ^ 33 := by
    rw [UInt64.toNat_shiftRight, Nat.shiftRight_eq_div_pow]; rfl
  have l : u.toNat < 2 ^ 64 := u.toNat_lt
  have g : (u >>> 33).toInt64.toInt = (u >>> 33).toBitVec.toInt := rfl
  have b : (u >>> 33).toBitVec.toNat = u.toNat / 2 ^ 33 := t
  rw [g, BitVec.toInt_eq_toNat_of_lt (by rw [b]; omega), b]
  omega
theorem drV_b (s : Int) {m : Int} (m0 : 1 ≤ m) (m1 : m ≤ 30) : 0 ≤ drV s m ∧ drV s m < m := by
  have lb := lushr_b s
  have hs : 0 ≤ w64 (lushr s 33) := by rw [w64_id (by omega) (by omega)]; exact lb.1
  have e : w64 (w32 m) = m := by rw [w32_n (x := m) (by omega) (by omega)]; unfold w64; omega
  unfold drV
  rw [e, Int.tmod_eq_emod_of_nonneg hs]
  exact ⟨Int.emod_nonneg _ (by omega), Int.emod_lt_of_pos _ (by omega)⟩
end PureDraw
