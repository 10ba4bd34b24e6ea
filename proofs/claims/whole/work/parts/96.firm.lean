section PureFirm
/-! FIRM -/
theorem tgf_sc : ∀ a k : Int, Tgf a k → SCA a k := fun a k q => by
  rcases q with q | ⟨q, q2 | q2⟩
  · unfold SCA; omega
  · unfold SCA; omega
  · unfold SCA; omega
section Q
variable {n : Nat} {f : Int → Int} {i : Int}
theorem m_firmE {h : Hp} (M : StM h 2032 n f) (n0 : 0 < n) (hi : ir i) (i1 : -1 ≤ i) : wp (Md_firm_b21 h 2000 i 0) (fun r h' => r = fmV n f i (seL n) 0 ∧ On SCA h h') := by
  have n6 := M.2.2.2.1
  have ln := seL_len n (by omega)
  unfold Md_firm_b21
  refine itr_wp (fun j σ => ∃ h2 : Hp, σ = (h2, 2000, i, (j : Int)) ∧ On (fun a _ => a = 2038) h h2 ∧ ∀ k : Nat, k < j → h2 2038 (k : Int) = -1) 6 ?_ ?_ (FU_gt (by decide)) ⟨h, rfl, On.rf, fun k hk => absurd hk (by omega)⟩
  · rintro j σ kk hj ⟨h2, rfl, F2, T2⟩ KK
    show wp (Md_firm_b21_body kk h2 2000 i (j : Int)) _
    unfold Md_firm_b21_body
    rw [w32_n (x := (j : Int)) (by omega) (by omega), if_pos (by omega), cC_s SH2000' rfl, cY_s SH2038 (by decide) (by omega) (by omega) (by decide), pu_s, show (j : Int) + 1 = ((j + 1 : Nat) : Int) by omega]
    refine KK _ ⟨_, rfl, F2.tr (On.up rfl), fun k hk => ?_⟩
    by_cases z : k = j
    · rw [z, up_at]
    · rw [up_off (by omega)]; exact T2 k (by omega)
  · rintro σ kk ⟨h2, rfl, F2, T2⟩
    show wp (Md_firm_b21_body kk h2 2000 i ((6 : Nat) : Int)) _
    unfold Md_firm_b21_body
    rw [if_neg (by decide), cC_s SH2000' rfl, pu_s, pu_s, pu_s]
    have Fa : On SCA h2 (up (up (up h2 2000 46 0) 2000 47 i) 2000 48 (-1)) := ((On.up (by unfold SCA; omega)).tr (On.up (by unfold SCA; omega))).tr (On.up (by unfold SCA; omega))
    have F0 : On SCA h h2 := F2.w (fun a k q => by unfold SCA; omega)
    have x46 : up (up (up h2 2000 46 0) 2000 47 i) 2000 48 (-1) 2000 46 = 0 := by rw [up_off (by decide), up_off (by decide), up_at]
    have x47 : up (up (up h2 2000 46 0) 2000 47 i) 2000 48 (-1) 2000 47 = i := by rw [up_off (by decide), up_at]
    have x48 : up (up (up h2 2000 46 0) 2000 47 i) 2000 48 (-1) 2000 48 = -1 := up_at
    have xs : ∀ k : Nat, k < n → up (up (up h2 2000 46 0) 2000 47 i) 2000 48 (-1) 2038 (k : Int) = -1 := fun k hk => by rw [up_ne (by decide), up_ne (by decide), up_ne (by decide)]; exact T2 k (by omega)
    generalize up (up (up h2 2000 46 0) 2000 47 i) 2000 48 (-1) = g at Fa x46 x47 x48 xs
    have Mg := M.on (F0.tr Fa)
    have hF : ∀ x : Nat, 10 < x → n < 0 + x := fun x hx => by omega
    obtain ⟨h3, e3, F3, T3, y46, y48⟩ := gf n6 hi 7 0 11 (by omega) (by omega) (by omega) g (fun _ => -1) 0 (-1) FU (hF FU (FU_gt (by decide))) (fun k hk => Or.inr ⟨rfl, by omega⟩) xs ⟨Mg, x46, x47, x48⟩ (by
      show 0 + (seL n).length ≤ 1000
      omega)
    have y46' : h3 2000 46 = (((seL n).foldl (fmS n f i) (0, -1)).1 : Int) := y46
    have y48' : h3 2000 48 = ((seL n).foldl (fmS n f i) (0, -1)).2 := y48
    have e4 : Md_goFirm g 2000 0 = some (0, h3) := by
      unfold Md_goFirm Md_goFirm_f
      rw [show RF = 11 + 1 from rfl, itr_s]
      show Md_goFirm_body _ g 2000 0 = _
      unfold Md_goFirm_body Md_goFirm_b2
      exact e3
    have F : On SCA h h3 := (F0.tr Fa).tr (F3.w tgf_sc)
    rw [e4, cl_s, ri hi]
    by_cases z : i = -1
    · rw [if_pos z, y46', fm_c _ _ _ z]
      exact wp_i ⟨rfl, F⟩
    · rw [if_neg z, y48', fm_r _ _ (by omega)]
      exact wp_i ⟨rfl, F⟩
end Q
theorem So_firm : S_firm Inv := by
  intro h a1 I i1
  have I0 := I
  obtain ⟨n, W, lc, sc, ru, pd, wd, f, ly, k0, sn, J⟩ := I
  have Ct := J.2.1
  have Nw := J.2.2.2.2.2.2.2.1
  have Rw : RwI h n := J.2.2.2.2.2.2.2.2.2.2.2.2.2
  have n6 := Ct.1.1.2.2
  obtain ⟨h1, e1, F1⟩ := c_firm Ct.1.1 Nw.1 Rw i1
  have F1' : On SCA h h1 := F1.w (fun a k q => by unfold SCA; omega)
  have F2 : On SCA h (up h1 2000 0 0) := F1'.tr t0_sc
  have M2 := Nw.2.1.on F2
  have o26 : up h1 2000 0 0 2000 26 = (n : Int) := M2.2.1
  rw [e1]
  refine so_s ?_
  unfold Md_firm
  rw [cC_s SH2000' rfl, pu_s, o26, w32_n (x := (n : Int)) (by omega) (by omega), ri i1]
  by_cases z : n = 0
  · rw [if_pos (by omega), if_pos z]
    exact ⟨_, _, rfl, rfl, Inv.qs I0 F2⟩
  · rw [if_neg (by omega), if_neg z]
    by_cases c : a1 < -1
    · rw [if_pos c, fm_n _ _ 0 c]
      exact ⟨_, _, rfl, rfl, Inv.qs I0 F2⟩
    · rw [if_neg c]
      obtain ⟨r, h2, e2, rfl, F3⟩ := m_firmE M2 (by omega) i1 (by omega)
      exact ⟨_, h2, e2, rfl, Inv.qs I0 (F2.tr F3)⟩
end PureFirm
