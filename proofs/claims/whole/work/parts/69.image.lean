section PureImage
/-! IMAGE, BACK and UNDO: a state written over another -/
theorem SH62 : SH 62 = (100, 60) := by decide +kernel
theorem SH2052 : SH 2052 = (100, 233) := by decide +kernel
theorem SH2041 : SH 2041 = (100, 9320) := by decide +kernel
section K
variable {h h' : Hp} {n W : Nat} {f g : Int → Int} {e : Int}
theorem lg_d {nt nt' g g' : Int → Int} (I : LG nt g e) (e1 : ∀ i : Int, 0 ≤ i → i < 60 → i < e → nt' (e - i) = nt (e - i)) (e2 : ∀ k : Int, 52 ≤ k → k < 233 → g' k = g k) : LG nt' g' e := by
  obtain ⟨i1, i2⟩ := I
  have e52 : g' 52 = g 52 := e2 52 (by decide) (by decide)
  refine ⟨by rw [e52]; exact i1, fun i i0 i1' => ?_⟩
  have q : ∀ j : Int, 0 ≤ j → j < 3 → lgF g' i j = lgF g i j := fun j j0 j1 => by
    unfold lgF
    rw [e52]
    exact e2 _ (by omega) (by omega)
  rw [q 0 (by decide) (by decide), q 1 (by decide) (by decide), q 2 (by decide) (by decide), e1 i i0 (by omega) (by omega)]
  exact i2 i i0 i1'
theorem sta_0 {s : Int} (A : StA h s n f) {k : Int} (hk : k < 0 ∨ 52 ≤ k) : f k = 0 := by
  rw [← A.2.2.1]
  unfold cR
  rcases hk with q | q
  · rw [if_pos q]
  · rw [if_neg (by omega), if_neg (by omega), if_neg (by omega), if_neg (by omega), if_neg (by omega), if_neg (by omega), if_neg (by omega)]
theorem sta_e {s : Int} (A : StA h s n f) : h s 8 = f 51 := by rw [← A.2.2.1]; exact cR_51.symm
theorem stm_of {s : Int} (A : StA h s n f) (h26 : h' 2000 26 = (n : Int)) (r : ∀ k : Int, 0 ≤ k → k < 52 → h' 2032 k = f k) : StM h' 2032 n f := by
  refine ⟨Or.inl rfl, h26, ?_, A.2.2.2⟩
  funext k
  unfold mR
  by_cases c : 0 ≤ k ∧ k < 52
  · rw [if_pos c]; exact r k c.1 c.2
  · rw [if_neg c]; exact (sta_0 A (by omega)).symm
/-- the last notes put by -/
theorem keep_e {A : StA h 110 n f} (e0 : 0 ≤ f 51) (e1 : f 51 ≤ 999) : ∃ h', Lg_keep h 60 110 = some (0, h') ∧ On (fun a _ => a = 62) h h' ∧ ∀ i : Int, 0 ≤ i → i < 60 → i < f 51 → h' 62 i = h 61 (f 51 - i) := by
  have e8 := sta_e A
  have s7 := (IsS_sh A.1).1
  have Wp : wp (Lg_keep h 60 110) (fun r h' => r = 0 ∧ On (fun a _ => a = 62) h h' ∧ ∀ i : Int, 0 ≤ i → i < 60 → i < f 51 → h' 62 i = h 61 (f 51 - i)) := by
    unfold Lg_keep Lg_keep_b2
    refine itr_wp (fun i σ => ∃ h2 : Hp, σ = (h2, 60, 110, (i : Int)) ∧ On (fun a _ => a = 62) h h2 ∧ ∀ j : Int, 0 ≤ j → j < (i : Int) → j < f 51 → h2 62 j = h 61 (f 51 - j)) 60 ?_ ?_ (FU_gt (by decide)) ⟨h, rfl, On.rf, fun j j0 j1 => absurd j1 (by omega)⟩
    · rintro i σ k hi ⟨h2, rfl, F2, T2⟩ K
      show wp (Lg_keep_b2_body k h2 60 110 (i : Int)) _
      have e8' : h2 110 8 = f 51 := by rw [F2 110 8 (by decide)]; exact e8
      have nx : ∀ v : Int, ((i : Int) < f 51 → v = h 61 (f 51 - (i : Int))) → wp (cl (Cc_put h2 62 (i : Int) v) (fun r6 h7 => k (h7, 60, 110, (i : Int) + 1))) (fun r h' => r = 0 ∧ On (fun a _ => a = 62) h h' ∧ ∀ i : Int, 0 ≤ i → i < 60 → i < f 51 → h' 62 i = h 61 (f 51 - i)) := by
        intro v hv
        rw [put_eq SH62 (by decide) (by omega) (by omega) (by decide), cl_s]
        refine K _ ⟨_, rfl, F2.tr (On.up rfl), fun j j0 j1 j2 => ?_⟩
        by_cases z : j = (i : Int)
        · rw [z, up_at]; exact hv (by omega)
        · rw [up_off z]; exact T2 j j0 (by omega) j2
      unfold Lg_keep_b2_body
      rw [w32_n (x := (i : Int)) (by omega) (by omega), if_pos (by omega), cC_s SH60 rfl, cC_s s7 rfl, e8']
      by_cases c : 0 ≤ f 51 - (i : Int)
      · rw [at_eq SH61 (by decide) c (by omega) (by decide), cl_s, F2 61 _ (by omega)]
        exact nx _ (fun _ => rfl)
      · rw [at_lo (by omega) (by omega), cl_s]
        exact nx _ (fun q => absurd q (by omega))
    · rintro σ k ⟨h2, rfl, F2, T2⟩
      show wp (Lg_keep_b2_body k h2 60 110 ((60 : Nat) : Int)) _
      unfold Lg_keep_b2_body
      rw [if_neg (by decide)]
      exact wp_i ⟨rfl, F2, fun i i0 i1 i2 => T2 i i0 (by omega) i2⟩
  obtain ⟨r, h', e, rfl, q⟩ := Wp
  exact ⟨h', e, q⟩
theorem restore_e {A : StA h 110 n f} (e0 : 0 ≤ f 51) (e1 : f 51 ≤ 999) : ∃ h', Lg_restore h 60 110 = some (0, h') ∧ On (fun a _ => a = 61) h h' ∧ ∀ i : Int, 0 ≤ i → i < 60 → i < f 51 → h' 61 (f 51 - i) = h 62 i := by
  have e8 := sta_e A
  have s7 := (IsS_sh A.1).1
  have Wp : wp (Lg_restore h 60 110) (fun r h' => r = 0 ∧ On (fun a _ => a = 61) h h' ∧ ∀ i : Int, 0 ≤ i → i < 60 → i < f 51 → h' 61 (f 51 - i) = h 62 i) := by
    unfold Lg_restore Lg_restore_b2
    refine itr_wp (fun i σ => ∃ h2 : Hp, σ = (h2, 60, 110, (i : Int)) ∧ On (fun a _ => a = 61) h h2 ∧ ∀ j : Int, 0 ≤ j → j < (i : Int) → j < f 51 → h2 61 (f 51 - j) = h 62 j) 60 ?_ ?_ (FU_gt (by decide)) ⟨h, rfl, On.rf, fun j j0 j1 => absurd j1 (by omega)⟩
    · rintro i σ k hi ⟨h2, rfl, F2, T2⟩ K
      show wp (Lg_restore_b2_body k h2 60 110 (i : Int)) _
      have e8' : h2 110 8 = f 51 := by rw [F2 110 8 (by decide)]; exact e8
      unfold Lg_restore_b2_body
      rw [w32_n (x := (i : Int)) (by omega) (by omega), if_pos (by omega), cC_s SH60 rfl, cC_s s7 rfl, at_eq SH62 (by decide) (by omega) (by omega) (by decide), cl_s, e8', F2 62 _ (by omega)]
      by_cases c : 0 ≤ f 51 - (i : Int)
      · rw [put_eq SH61 (by decide) c (by omega) (by decide), cl_s]
        refine K _ ⟨_, rfl, F2.tr (On.up rfl), fun j j0 j1 j2 => ?_⟩
        by_cases z : j = (i : Int)
        · rw [z, up_at]
        · rw [up_off (by omega)]; exact T2 j j0 (by omega) j2
      · rw [put_lo (by omega) (by omega), cl_s]
        exact K _ ⟨_, rfl, F2, fun j j0 j1 j2 => T2 j j0 (by omega) j2⟩
    · rintro σ k ⟨h2, rfl, F2, T2⟩
      show wp (Lg_restore_b2_body k h2 60 110 ((60 : Nat) : Int)) _
      unfold Lg_restore_b2_body
      rw [if_neg (by decide)]
      exact wp_i ⟨rfl, F2, fun i i0 i1 i2 => T2 i i0 (by omega) i2⟩
  obtain ⟨r, h', e, rfl, q⟩ := Wp
  exact ⟨h', e, q⟩
theorem mim_e (h : Hp) : ∃ h', Md_image_b16 h 2000 0 = some (h 2032 51, h') ∧ On (fun a k => a = 2052 ∨ (a = 2000 ∧ k = 53)) h h' ∧ h' 2000 53 = 1 ∧ ∀ k : Int, 0 ≤ k → k < 233 → h' 2052 k = h 2032 k := by
  have Wp : wp (Md_image_b16 h 2000 0) (fun r h' => r = h 2032 51 ∧ On (fun a k => a = 2052 ∨ (a = 2000 ∧ k = 53)) h h' ∧ h' 2000 53 = 1 ∧ ∀ k : Int, 0 ≤ k → k < 233 → h' 2052 k = h 2032 k) := by
    unfold Md_image_b16
    refine itr_wp (fun i σ => ∃ h2 : Hp, σ = (h2, 2000, (i : Int)) ∧ On (fun a k => a = 2052 ∨ (a = 2000 ∧ k = 53)) h h2 ∧ ∀ j : Int, 0 ≤ j → j < (i : Int) → h2 2052 j = h 2032 j) 233 ?_ ?_ (FU_gt (by decide)) ⟨h, rfl, On.rf, fun j j0 j1 => absurd j1 (by omega)⟩
    · rintro i σ k hi ⟨h2, rfl, F2, T2⟩ K
      show wp (Md_image_b16_body k h2 2000 (i : Int)) _
      unfold Md_image_b16_body
      rw [w32_n (x := (i : Int)) (by omega) (by omega), if_pos (by omega), cC_s SH2000' rfl, cX_s SH2032' (by omega) (by omega) (by decide), cY_s SH2052 (by decide) (by omega) (by omega) (by decide), pu_s, rd_ge (by decide), F2 2032 _ (by omega)]
      refine K _ ⟨_, rfl, F2.tr (On.up (Or.inl rfl)), fun j j0 j1 => ?_⟩
      by_cases z : j = (i : Int)
      · rw [z, up_at]
      · rw [up_off z]; exact T2 j j0 (by omega)
    · rintro σ k ⟨h2, rfl, F2, T2⟩
      show wp (Md_image_b16_body k h2 2000 ((233 : Nat) : Int)) _
      unfold Md_image_b16_body
      rw [if_neg (by decide), cC_s SH2000' rfl, pu_s, cX_s SH2032' (by decide) (by decide) (by decide), rd_ge (by decide), up_ne (by decide), F2 2032 _ (by omega)]
      exact wp_i ⟨rfl, F2.tr (On.up (Or.inr ⟨rfl, rfl⟩)), up_at, fun j j0 j1 => by rw [up_ne (by decide)]; exact T2 j j0 (by omega)⟩
  obtain ⟨r, h', e, rfl, q⟩ := Wp
  exact ⟨h', e, q⟩
theorem mbk_e (h : Hp) : ∃ h', Md_back_b16 h 2000 0 = some (h 2052 51, h') ∧ On (fun a k => a = 2032 ∨ (a = 2000 ∧ k = 42)) h h' ∧ h' 2000 42 = 0 ∧ ∀ k : Int, 0 ≤ k → k < 233 → h' 2032 k = h 2052 k := by
  have Wp : wp (Md_back_b16 h 2000 0) (fun r h' => r = h 2052 51 ∧ On (fun a k => a = 2032 ∨ (a = 2000 ∧ k = 42)) h h' ∧ h' 2000 42 = 0 ∧ ∀ k : Int, 0 ≤ k → k < 233 → h' 2032 k = h 2052 k) := by
    unfold Md_back_b16
    refine itr_wp (fun i σ => ∃ h2 : Hp, σ = (h2, 2000, (i : Int)) ∧ On (fun a k => a = 2032 ∨ (a = 2000 ∧ k = 42)) h h2 ∧ ∀ j : Int, 0 ≤ j → j < (i : Int) → h2 2032 j = h 2052 j) 233 ?_ ?_ (FU_gt (by decide)) ⟨h, rfl, On.rf, fun j j0 j1 => absurd j1 (by omega)⟩
    · rintro i σ k hi ⟨h2, rfl, F2, T2⟩ K
      show wp (Md_back_b16_body k h2 2000 (i : Int)) _
      unfold Md_back_b16_body
      rw [w32_n (x := (i : Int)) (by omega) (by omega), if_pos (by omega), cC_s SH2000' rfl, cX_s SH2052 (by omega) (by omega) (by decide), cY_s SH2032' (by decide) (by omega) (by omega) (by decide), pu_s, rd_ge (by decide), F2 2052 _ (by omega)]
      refine K _ ⟨_, rfl, F2.tr (On.up (Or.inl rfl)), fun j j0 j1 => ?_⟩
      by_cases z : j = (i : Int)
      · rw [z, up_at]
      · rw [up_off z]; exact T2 j j0 (by omega)
    · rintro σ k ⟨h2, rfl, F2, T2⟩
      show wp (Md_back_b16_body k h2 2000 ((233 : Nat) : Int)) _
      unfold Md_back_b16_body
      rw [if_neg (by decide), cC_s SH2000' rfl, pu_s, cX_s SH2032' (by decide) (by decide) (by decide), rd_ge (by decide), up_ne (by decide), T2 51 (by decide) (by decide)]
      exact wp_i ⟨rfl, F2.tr (On.up (Or.inr ⟨rfl, rfl⟩)), up_at, fun j j0 j1 => by rw [up_ne (by decide)]; exact T2 j j0 (by omega)⟩
  obtain ⟨r, h', e, rfl, q⟩ := Wp
  exact ⟨h', e, q⟩
end K
def Tim (a k : Int) : Prop := (a = 20 ∧ k = 12) ∨ (a = 2000 ∧ (k = 0 ∨ k = 53)) ∨ a = 120 ∨ a = 121 ∨ a = 122 ∨ a = 123 ∨ a = 62 ∨ a = 2052
theorem So_image : S_image Inv := by
  intro h I
  have J := I
  obtain ⟨n, W, lc, sc, ru, pd, wd, f, ly, k0, sn, Tp, Ct, Lw, Lh, Mm, Ss, Sn, Nw, Lg, Td, Im, Pa, Gv, Rw⟩ := J
  have n6 := Ct.1.1.2.2
  unfold Cc_image Md_image
  rw [cC_s SH20' rfl]
  by_cases z : n = 0
  · rw [told0 Ct.1.1 z, cl_s, if_pos wz0]
    refine so_s ⟨-1, up h 2000 0 0, ?_, rfl, Inv.qs I t0_sc⟩
    rw [cC_s SH2000' rfl, pu_s, up_off (by decide), Ct.2.1.1, w32_n (x := (n : Int)) (by omega) (by omega), if_pos (by omega)]
  · have i120 : IsS 120 := ⟨by decide, by decide, by decide⟩
    obtain ⟨h1, e1, F1, S1⟩ := St_copy_e i120 Nw.1 (by decide)
    have A1 : StA h1 110 n f := Nw.1.c (fun k _ _ => by rw [F1 110 (by decide)]) (fun j j0 j1 => F1 _ (by omega))
    obtain ⟨h2, e2, F2, T2⟩ := keep_e (A := A1) Nw.2.2.2.2.1 Nw.2.2.2.2.2
    have e8 : up h2 20 12 1 110 8 = f 51 := by rw [up_ne (by decide), F2 110 8 (by decide)]; exact sta_e A1
    rw [told1 Ct.1.1 z, cl_s, if_neg wn1, cC_s (IsS_sh i120).1 rfl, e1, cl_s, cC_s SH60 rfl, e2, cl_s, pu_s, cC_s (IsS_sh Nw.1.1).1 rfl, e8]
    have Fc : On Tim h (up (up h2 20 12 1) 2000 0 0) := ((((F1.on (T := Tim) (fun a q k => by unfold Tim; omega)).tr (F2.w (fun a k q => by unfold Tim; omega))).tr (On.up (Or.inl ⟨rfl, rfl⟩))).tr (On.up (Or.inr (Or.inl ⟨rfl, Or.inl rfl⟩))))
    obtain ⟨h3, e3, F3, x53, rw2⟩ := mim_e (up (up h2 20 12 1) 2000 0 0)
    have rw0 : ∀ k : Int, up (up h2 20 12 1) 2000 0 0 2032 k = h 2032 k := fun k => Fc 2032 k (by unfold Tim; omega)
    refine so_s ⟨f 51, h3, ?_, rfl, ?_⟩
    · rw [cC_s SH2000' rfl, pu_s, Fc 2000 26 (by unfold Tim; omega), Ct.2.1.1, w32_n (x := (n : Int)) (by omega) (by omega), if_neg (by omega), e3, rw0, Nw.2.1.rd (by decide) (by decide)]
    · have F : On Tim h h3 := Fc.tr (F3.w (fun a k q => by unfold Tim; omega))
      have e20 : h3 20 12 = 1 := by rw [F3 20 12 (by decide), up_ne (by decide), up_at]
      have e53 : h3 2000 53 = 1 := x53
      have x120 : ∀ (a k : Int), a = 120 ∨ a = 121 ∨ a = 122 ∨ a = 123 → h3 a k = h1 a k := fun a k q => by rw [F3 a k (by omega), up_ne (by omega), up_ne (by omega), F2 a k (by omega)]
      have St : StA h3 120 n f := S1.c (fun k _ _ => x120 120 k (Or.inl rfl)) (fun j j0 j1 => funext fun k => x120 _ k (by omega))
      have r62 : ∀ i : Int, h3 62 i = h2 62 i := fun i => by rw [F3 62 i (by omega), up_ne (by decide), up_ne (by decide)]
      have lg : LG (fun x => h3 62 (f 51 - x)) (h3 2052) (f 51) := lg_d Lg (fun i i0 i1 i2 => by
        show h3 62 (f 51 - (f 51 - i)) = h 61 (f 51 - i)
        rw [show f 51 - (f 51 - i) = i by omega, r62, T2 i i0 i1 i2, F1 61 (by decide)]) (fun k k0 k1 => by rw [rw2 k (by omega) k1, rw0])
      exact ⟨n, W, lc, sc, ru, pd, wd, f, ly, k0, sn, Tp.e (F.e (fun a k t c => by unfold Tim at t; unfold TpC at c; omega)), Ct.e (F.e (fun a k t c => by have z := Ct.1.1.1; unfold Tim at t; unfold CtC at c; omega)), Lw.e (F.e (fun a k t c => by have z := Lw.2.2.1; unfold Tim at t; unfold LwC at c; omega)), Lh.e (F.e (fun a k t c => by unfold Tim at t; unfold LhC at c; omega)), MmI.e Mm (F.e (fun a k t c => by unfold Tim at t; unfold MmC at c; omega)), Ss.e (F.e (fun a k t c => by have z := Ss.2.2.1; unfold Tim at t; unfold SsC at c; omega)), Sn.e (F.e (fun a k t c => by unfold Tim at t; unfold SnC at c; omega)), Nw.e (F.e (fun a k t c => by unfold Tim at t; unfold NwC at c; omega)), lg_on F (fun a k t c => by unfold Tim at t; unfold LgC at c; omega) Lg, Td.e (F.e (fun a k t c => by unfold Tim at t; unfold TdC at c; omega)), Or.inr ⟨e20, e53, f, St, fun k k0 k1 => by rw [rw2 k k0 (by omega), rw0 k]; exact Nw.2.1.rd k0 k1, Nw.2.2, lg⟩, Pa.e (F.e (fun a k t c => by unfold Tim at t; unfold PaC at c; omega)), Gv.e (F.e (fun a k t c => by unfold Tim at t; unfold GvC at c; omega)), Rw.e (F.e (fun a k t c => by unfold Tim at t; unfold RwC at c; omega))⟩
def Tbk (a k : Int) : Prop := (a = 55 ∧ k = 2) ∨ (a = 2000 ∧ (k = 0 ∨ k = 42)) ∨ a = 110 ∨ a = 111 ∨ a = 112 ∨ a = 113 ∨ a = 61 ∨ a = 2032
theorem So_back : S_back Inv := by
  intro h I
  have J := I
  obtain ⟨n, W, lc, sc, ru, pd, wd, f, ly, k0, sn, Tp, Ct, Lw, Lh, Mm, Ss, Sn, Nw, Lg, Td, Im, Pa, Gv, Rw⟩ := J
  have n6 := Ct.1.1.2.2
  unfold Cc_back Md_back
  rw [cC_s SH20' rfl]
  have Im0 := Im
  rcases Im0 with ⟨z1, z2⟩ | ⟨z1, z2, g, G1, G2, G3, G4⟩
  · rw [z1, if_pos wz0]
    refine so_s ⟨-1, up h 2000 0 0, ?_, rfl, Inv.qs I t0_sc⟩
    rw [cC_s SH2000' rfl, pu_s, up_off (by decide), z2, if_pos wz0]
  · obtain ⟨h1, e1, F1, S1⟩ := St_copy_e Nw.1.1 G1 (by decide)
    obtain ⟨h2, e2, F2, T2⟩ := restore_e (A := S1) G3.2.2.1 G3.2.2.2
    have e8 : up h2 55 2 0 110 8 = g 51 := by rw [up_ne (by decide), F2 110 8 (by decide)]; exact sta_e S1
    have efg : Ps_forget h2 55 = some (0, up h2 55 2 0) := by
      unfold Ps_forget
      rw [cC_s SH55 rfl, pu_s]
    rw [z1, if_neg wn1, cC_s (IsS_sh Nw.1.1).1 rfl, e1, cl_s, cC_s SH60 rfl, e2, cl_s, cC_s SH55 rfl, efg, cl_s, e8]
    have Fc : On Tbk h (up (up h2 55 2 0) 2000 0 0) := ((((F1.on (T := Tbk) (fun a q k => by unfold Tbk; omega)).tr (F2.w (fun a k q => by unfold Tbk; omega))).tr (On.up (Or.inl ⟨rfl, rfl⟩))).tr (On.up (Or.inr (Or.inl ⟨rfl, Or.inl rfl⟩))))
    obtain ⟨h3, e3, F3, x42, rw2⟩ := mbk_e (up (up h2 55 2 0) 2000 0 0)
    have rw0 : ∀ k : Int, up (up h2 55 2 0) 2000 0 0 2052 k = h 2052 k := fun k => Fc 2052 k (by unfold Tbk; omega)
    refine so_s ⟨g 51, h3, ?_, rfl, ?_⟩
    · rw [cC_s SH2000' rfl, pu_s, Fc 2000 53 (by unfold Tbk; omega), z2, if_neg wn1, e3, rw0, G2 51 (by decide) (by decide)]
    · have F : On Tbk h h3 := Fc.tr (F3.w (fun a k q => by unfold Tbk; omega))
      have x110 : ∀ (a k : Int), a = 110 ∨ a = 111 ∨ a = 112 ∨ a = 113 → h3 a k = h1 a k := fun a k q => by rw [F3 a k (by omega), up_ne (by omega), up_ne (by omega), F2 a k (by omega)]
      have St : StA h3 110 n g := S1.c (fun k _ _ => x110 110 k (Or.inl rfl)) (fun j j0 j1 => funext fun k => x110 _ k (by omega))
      have nw : NwI h3 n W g := ⟨St, stm_of St (by rw [F 2000 26 (by unfold Tbk; omega)]; exact Ct.2.1.1) (fun k k0 k1 => by rw [rw2 k k0 (by omega), rw0]; exact G2 k k0 k1), G3⟩
      have r61 : ∀ i : Int, h3 61 i = h2 61 i := fun i => by rw [F3 61 i (by omega), up_ne (by decide), up_ne (by decide)]
      have lg : LG (h3 61) (h3 2032) (g 51) := lg_d G4 (fun i i0 i1 i2 => by
        show h3 61 (g 51 - i) = h 62 (g 51 - (g 51 - i))
        rw [show g 51 - (g 51 - i) = i by omega, r61, T2 i i0 i1 i2, F1 62 (by decide)]) (fun k k0 k1 => by rw [rw2 k (by omega) k1, rw0])
      have Pa0 := Pa
      obtain ⟨fst, acts, PF, p1, p2, p3, p4, p5, p6, p7⟩ := Pa0
      have pa : PaI h3 n W (g 51) := ⟨fst, 0, PF, by rw [F 55 1 (by unfold Tbk; omega)]; exact p1, by rw [F3 55 2 (by decide), up_ne (by decide), up_at]; rfl, by rw [x42]; rfl, p4, by decide, fun j hj => absurd hj (Nat.not_lt_zero j), fun i j _ hj => absurd hj (Nat.not_lt_zero j)⟩
      exact ⟨n, W, lc, sc, ru, pd, wd, g, ly, k0, sn, Tp.e (F.e (fun a k t c => by unfold Tbk at t; unfold TpC at c; omega)), Ct.e (F.e (fun a k t c => by have z := Ct.1.1.1; unfold Tbk at t; unfold CtC at c; omega)), Lw.e (F.e (fun a k t c => by have z := Lw.2.2.1; unfold Tbk at t; unfold LwC at c; omega)), Lh.e (F.e (fun a k t c => by unfold Tbk at t; unfold LhC at c; omega)), MmI.e Mm (F.e (fun a k t c => by unfold Tbk at t; unfold MmC at c; omega)), Ss.e (F.e (fun a k t c => by have z := Ss.2.2.1; unfold Tbk at t; unfold SsC at c; omega)), Sn.e (F.e (fun a k t c => by unfold Tbk at t; unfold SnC at c; omega)), nw, lg, Td.e (F.e (fun a k t c => by unfold Tbk at t; unfold TdC at c; omega)), Im.e (F.e (fun a k t c => by unfold Tbk at t; unfold ImC at c; omega)), pa, Gv.e (F.e (fun a k t c => by unfold Tbk at t; unfold GvC at c; omega)), Rw.e (F.e (fun a k t c => by unfold Tbk at t; unfold RwC at c; omega))⟩
end PureImage
