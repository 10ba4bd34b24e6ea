section PureM
variable {h : Hp} {n : Nat} {f : Int → Int}
theorem m_areParty (M : StM h 2032 n f) (m : Nat) : Md_areParty h 2000 (m : Int) = some (pyV n f (m : Int), h) := by
  have G := M.2.2.2
  have n6 := G.1
  have W : wp (Md_areParty h 2000 (m : Int)) (fun r h' => r = pyV n f (m : Int) ∧ h' = h) := by
    unfold Md_areParty Md_areParty_b2
    refine itr_wpx (fun d σ => ∃ i : Nat, σ = (h, 2000, (m : Int), (i : Int)) ∧ i + d = n ∧ ∀ a b : Nat, a < i → b < n → ¬ (a < b ∧ w32 (iand (ishr (m : Int) (a : Int)) 1) = 1 ∧ w32 (iand (ishr (m : Int) (b : Int)) 1) = 1 ∧ f (6 * (a : Int) + (b : Int)) = 0)) ?_ (n := n) (FU_gt (by omega)) ⟨0, rfl, by omega, fun a b q => absurd q (by omega)⟩
    rintro d σ k ⟨i, rfl, hd, V⟩ K
    show wp (Md_areParty_b2_body k h 2000 (m : Int) (i : Int)) _
    unfold Md_areParty_b2_body
    rw [cC_s SH2000' rfl, M.2.1, w32_n (x := (i : Int)) (by omega) (by omega), w32_n (x := (n : Int)) (by omega) (by omega)]
    by_cases ci : i < n
    · rw [if_pos (by omega), bd_s]
      unfold Md_areParty_b14
      refine itr_wpx (fun d2 σ => ∃ j : Nat, σ = (h, 2000, (m : Int), (i : Int), (j : Int)) ∧ j + d2 = n ∧ i < j ∧ ∀ b : Nat, b < j → ¬ (i < b ∧ w32 (iand (ishr (m : Int) (i : Int)) 1) = 1 ∧ w32 (iand (ishr (m : Int) (b : Int)) 1) = 1 ∧ f (6 * (i : Int) + (b : Int)) = 0)) ?_ (n := n - (i + 1)) (FU_gt (by omega)) ⟨i + 1, rfl, by omega, by omega, fun b hb q => absurd q.1 (by omega)⟩
      rintro d2 σ k2 ⟨j, rfl, hd2, hij, V2⟩ K2
      show wp (Md_areParty_b14_body k k2 h 2000 (m : Int) (i : Int) (j : Int)) _
      unfold Md_areParty_b14_body
      rw [cC_s SH2000' rfl, M.2.1, w32_n (x := (j : Int)) (by omega) (by omega), w32_n (x := (n : Int)) (by omega) (by omega)]
      by_cases cj : j < n
      · rw [if_pos (by omega), Md_has_p, cl_s]
        have nx : ¬ (i < j ∧ w32 (iand (ishr (m : Int) (i : Int)) 1) = 1 ∧ w32 (iand (ishr (m : Int) (j : Int)) 1) = 1 ∧ f (6 * (i : Int) + (j : Int)) = 0) → wp (k2 (h, 2000, (m : Int), (i : Int), (j : Int) + 1)) (fun r h' => r = pyV n f (m : Int) ∧ h' = h) := by
          intro z
          refine K2 (d2 - 1) _ (by omega) ⟨j + 1, rfl, by omega, by omega, fun b hb q => ?_⟩
          by_cases e : b = j
          · subst e
            exact z q
          · exact V2 b (by omega) q
        by_cases c1 : w32 (iand (ishr (m : Int) (i : Int)) 1) = 1
        · rw [if_pos c1, if_neg (by decide), Md_has_p, cl_s]
          by_cases c2 : w32 (iand (ishr (m : Int) (j : Int)) 1) = 1
          · rw [if_pos c2, if_neg (by decide), Md_owes_e M (by omega) (by omega) (by omega) (by omega), cl_s]
            have D := Gd_d G (a := (i : Int)) (b := (j : Int)) (by omega) (by omega) (by omega) (by omega)
            rw [w32_n D.1 (by omega)]
            by_cases c3 : f (6 * (i : Int) + (j : Int)) = 0
            · rw [if_pos c3]
              exact wp_i ⟨(pyV_0 (fun q => q i ci j cj ⟨hij, c1, c2, c3⟩)).symm, rfl⟩
            · rw [if_neg c3]
              exact nx (fun q => c3 q.2.2.2)
          · rw [if_neg c2, if_pos (by decide)]
            exact nx (fun q => c2 q.2.2.1)
        · rw [if_neg c1, if_pos (by decide)]
          exact nx (fun q => c1 q.2.1)
      · rw [if_neg (by omega)]
        refine K (d - 1) _ (by omega) ⟨i + 1, rfl, by omega, fun a b ha hb1 q => ?_⟩
        by_cases e : a = i
        · subst e
          exact V2 b (by omega) q
        · exact V a b (by omega) hb1 q
    · rw [if_neg (by omega)]
      exact wp_i ⟨(pyV_1 (fun a ha b hb1 => V a b (by omega) hb1)).symm, rfl⟩
  obtain ⟨r, h', e, rfl, rfl⟩ := W
  exact e
def paI (n : Nat) (f : Int → Int) (m : Nat) (x : Int) : Int := if pyV n f (m : Int) = 0 then x else if x < pcv (m : Int) then pcv (m : Int) else x
def paV (n : Nat) (f : Int → Int) : Int := fo (paI n f) (2 ^ n) 0
theorem paI_b {i : Nat} (hi : i ≤ 64) : 0 ≤ fo (paI n f) i 0 ∧ fo (paI n f) i 0 ≤ 6 := by
  refine fo_inv (fun x => 0 ≤ x ∧ x ≤ 6) (fun j x hj q => ?_) ⟨by decide, by decide⟩
  have B := pcv_b j (by omega)
  unfold paI
  by_cases c : pyV n f (j : Int) = 0
  · rw [if_pos c]; exact q
  · rw [if_neg c]
    by_cases c2 : x < pcv (j : Int)
    · rw [if_pos c2]; exact B
    · rw [if_neg c2]; exact q
theorem p2_0 (n : Nat) : 0 < 2 ^ n := Nat.pow_pos (by decide)
theorem c_party (A : StA h 110 n f) : Cc_party h 20 = some (paV n f, h) := by
  have n6 := A.2.2.2.1
  have s0 := (IsS_sh A.1).1
  have p64 := p2_le n6
  have pe := p2 n (by omega)
  have ip := fun (m : Nat) (hm : m < 2 ^ n) => c_isParty A hm
  unfold paV
  generalize (2 : Nat) ^ n = P at p64 pe ip ⊢
  unfold Cc_party Cc_party_b4
  refine itr_run (fun m : Nat => (h, 20, fo (paI n f) m 0, (m : Int))) (n := P) ?_ ?_ (FU_gt (by omega))
  · intro m hm k
    show Cc_party_b4_body k h 20 (fo (paI n f) m 0) (m : Int) = k (h, 20, paI n f m (fo (paI n f) m 0), (m : Int) + 1)
    have XB := paI_b (n := n) (f := f) (i := m) (by omega)
    generalize fo (paI n f) m 0 = x at XB
    have B := pcv_b m (by omega)
    unfold Cc_party_b4_body paI
    rw [cC_s SH20' rfl, cC_s s0 rfl, A.2.1, pe.1, w32_n (x := (m : Int)) (by omega) (by omega), if_pos (by omega), ip m hm, cl_s, w32_n XB.1 (by omega)]
    rcases pyV_c (n := n) (f := f) (m : Int) with e | e
    · rw [e, if_neg (show ¬ w32 1 = 0 by decide), if_neg (show ¬ (1 : Int) = 0 by decide), Ji_pc, cl_s, bd_s, w32_n B.1 (by omega)]
    · rw [e, if_pos (show w32 0 = 0 by decide), if_pos rfl]
  · intro k
    show Cc_party_b4_body k h 20 (fo (paI n f) (P) 0) ((P : Nat) : Int) = _
    unfold Cc_party_b4_body
    rw [cC_s SH20' rfl, cC_s s0 rfl, A.2.1, pe.1, w32_n (x := ((P : Nat) : Int)) (by omega) (by omega), if_neg (Int.lt_irrefl _)]
theorem pcv_0 : pcv ((0 : Nat) : Int) = 0 := by decide +kernel
theorem paI_0 : fo (paI n f) 1 0 = 0 := by
  show paI n f 0 0 = 0
  unfold paI
  rw [pcv_0]
  by_cases c : pyV n f ((0 : Nat) : Int) = 0
  · rw [if_pos c]
  · rw [if_neg c, if_neg (Int.lt_irrefl _)]
theorem m_party (M : StM h 2032 n f) : Md_party h 2000 = some (paV n f, h) := by
  have n6 := M.2.2.2.1
  have p64 := p2_le n6
  have pe := p2 n (by omega)
  have p0 := p2_0 n
  unfold paV
  generalize (2 : Nat) ^ n = P at p64 pe p0 ⊢
  unfold Md_party Md_party_b4
  refine itr_runs (fun m : Nat => (h, 2000, fo (paI n f) (m + 1) 0, ((m + 1 : Nat) : Int))) (n := P - 1) ?_ ?_ ?_ (FU_gt (by omega))
  · show (h, 2000, fo (paI n f) 1 0, ((0 + 1 : Nat) : Int)) = _
    rw [paI_0]
    rfl
  · intro m hm k
    show Md_party_b4_body k h 2000 (fo (paI n f) (m + 1) 0) ((m + 1 : Nat) : Int) = k (h, 2000, paI n f (m + 1) (fo (paI n f) (m + 1) 0), ((m + 1 : Nat) : Int) + 1)
    have XB := paI_b (n := n) (f := f) (i := m + 1) (by omega)
    generalize fo (paI n f) (m + 1) 0 = x at XB
    obtain ⟨m', hm'⟩ : ∃ m' : Nat, m' = m + 1 := ⟨_, rfl⟩
    rw [← hm']
    have B := pcv_b m' (by omega)
    unfold Md_party_b4_body paI
    rw [cC_s SH2000' rfl, M.2.1, pe.1, w32_n (x := (m' : Int)) (by omega) (by omega), if_pos (by omega), Ji_pc, cl_s, w32_n XB.1 (by omega), w32_n B.1 (by omega)]
    by_cases c : x < pcv (m' : Int)
    · rw [if_pos c, m_areParty M, cl_s, if_pos c]
      rcases pyV_c (n := n) (f := f) (m' : Int) with e | e
      · rw [e, if_neg (show ¬ w32 1 = 0 by decide), if_neg (show ¬ (1 : Int) = 0 by decide), Ji_pc, cl_s]
      · rw [e, if_pos (show w32 0 = 0 by decide), if_pos rfl]
    · rw [if_neg c, if_neg c]
      by_cases c2 : pyV n f (m' : Int) = 0
      · rw [if_pos c2]
      · rw [if_neg c2]
  · intro k
    show Md_party_b4_body k h 2000 (fo (paI n f) (P - 1 + 1) 0) ((P - 1 + 1 : Nat) : Int) = _
    have e : P - 1 + 1 = P := by omega
    rw [e]
    unfold Md_party_b4_body
    rw [cC_s SH2000' rfl, M.2.1, pe.1, w32_n (x := ((P : Nat) : Int)) (by omega) (by omega), if_neg (Int.lt_irrefl _)]
end PureM
