section PureFeed
/-! FEED: twenty bytes, those that are 0 left out -/
theorem iand_255 (y : Int) : iand y 255 = y % 256 := by
  unfold iand
  have e0 : (Int32.ofInt y &&& Int32.ofInt 255).toInt = (BitVec.ofInt 32 y &&& BitVec.ofInt 32 255).toInt := rfl
  have e1 : (BitVec.ofInt 32 y).toNat = (y % 4294967296).toNat := by rw [BitVec.toNat_ofInt]; rfl
  have e2 : (BitVec.ofInt 32 255).toNat = 255 := rfl
  have e3 : (BitVec.ofInt 32 y &&& BitVec.ofInt 32 255).toNat = (y % 4294967296).toNat % 256 := by
    rw [BitVec.toNat_and, e1, e2]
    exact Nat.and_two_pow_sub_one_eq_mod _ 8
  rw [e0, BitVec.toInt_eq_toNat_of_lt (by rw [e3]; omega), e3]
  omega
theorem w8_255 (y : Int) : w8 (w8 y) = w8 (iand y 255) := by
  rw [iand_255]
  unfold w8
  omega
def shI (i : Nat) : Int := 24 - 8 * (i : Int)
def byI (x : Int) (i : Nat) : Int := iand (ishr x (shI i)) 255
theorem byI_b (x : Int) (i : Nat) : 0 ≤ byI x i ∧ byI x i ≤ 255 := by
  unfold byI
  rw [iand_255]
  omega
def bcP (x : Int) : Nat → Nat
  | 0 => 0
  | i + 1 => bcP x i + (if byI x i = 0 then 0 else 1)
theorem bcP_b (x : Int) : ∀ i, bcP x i ≤ i
  | 0 => Nat.le_refl _
  | i + 1 => by
    have := bcP_b x i
    show bcP x i + (if byI x i = 0 then 0 else 1) ≤ i + 1
    by_cases c : byI x i = 0
    · rw [if_pos c]; omega
    · rw [if_neg c]; omega
theorem bytes_e (h : Hp) (x : Int) : Tp_bytesOf h x = some (((bcP x 4 : Nat) : Int), h) := by
  unfold Tp_bytesOf Tp_bytesOf_b5
  refine itr_run (fun i : Nat => (h, x, ((bcP x i : Nat) : Int), shI i)) (n := 4) ?_ ?_ (FU_gt (by decide))
  · intro i hi k
    have b := byI_b x i
    show Tp_bytesOf_b5_body k h x ((bcP x i : Nat) : Int) (shI i) = k (h, x, ((bcP x i + (if byI x i = 0 then 0 else 1) : Nat) : Int), shI (i + 1))
    have e1 : shI i + (-8) = shI (i + 1) := by unfold shI; omega
    unfold Tp_bytesOf_b5_body
    rw [if_neg (by unfold shI; rw [w32_n (by omega) (by omega)]; omega), e1]
    have eb : iand (ishr x (shI i)) 255 = byI x i := rfl
    rw [eb, w32_n (x := byI x i) b.1 (by omega)]
    by_cases c : byI x i = 0
    · rw [if_pos c, if_pos c, bd_s]; rfl
    · rw [if_neg c, if_neg c, bd_s]; rfl
  · intro k
    show Tp_bytesOf_b5_body k h x ((bcP x 4 : Nat) : Int) (shI 4) = _
    unfold Tp_bytesOf_b5_body
    rw [if_pos (by decide)]
theorem bytes_m (h : Hp) (x : Int) : Md_bytesIn h x = some (((bcP x 4 : Nat) : Int), h) := bytes_e h x
/-- bytes come behind those that are there -/
def fdS (x : Int) (i : Nat) (s : Nat × (Nat → Int)) : Nat × (Nat → Int) := if byI x i = 0 then s else (s.1 + 1, fun k => if k = s.1 then byI x i else s.2 k)
def fdP (x : Int) : Nat → Nat × (Nat → Int) → Nat × (Nat → Int)
  | 0, s => s
  | i + 1, s => fdS x i (fdP x i s)
theorem fdP_1 (x : Int) (s : Nat × (Nat → Int)) : ∀ i, (fdP x i s).1 = s.1 + bcP x i
  | 0 => rfl
  | i + 1 => by
    have ih := fdP_1 x s i
    show (fdS x i (fdP x i s)).1 = s.1 + (bcP x i + (if byI x i = 0 then 0 else 1))
    unfold fdS
    by_cases c : byI x i = 0
    · rw [if_pos c, if_pos c, ih]; rfl
    · rw [if_neg c, if_neg c]
      show (fdP x i s).1 + 1 = _
      rw [ih]; omega
theorem fdP_b (x : Int) {s : Nat × (Nat → Int)} (b : ∀ k, k < s.1 → 1 ≤ s.2 k ∧ s.2 k ≤ 255) : ∀ i, ∀ k, k < (fdP x i s).1 → 1 ≤ (fdP x i s).2 k ∧ (fdP x i s).2 k ≤ 255
  | 0 => b
  | i + 1 => by
    have ih := fdP_b x b i
    intro k hk
    have e : fdP x (i + 1) s = fdS x i (fdP x i s) := rfl
    rw [e] at hk ⊢
    unfold fdS at hk ⊢
    by_cases c : byI x i = 0
    · rw [if_pos c] at hk ⊢; exact ih k hk
    · rw [if_neg c] at hk ⊢
      have hk' : k < (fdP x i s).1 + 1 := hk
      have bb := byI_b x i
      show 1 ≤ (if k = (fdP x i s).1 then byI x i else (fdP x i s).2 k) ∧ (if k = (fdP x i s).1 then byI x i else (fdP x i s).2 k) ≤ 255
      by_cases z : k = (fdP x i s).1
      · rw [if_pos z]; omega
      · rw [if_neg z]; exact ih k (by omega)
def FdC (h : Hp) (s : Nat × (Nat → Int)) : Prop := h 21 1 = (s.1 : Int) ∧ ∀ k : Nat, k < s.1 → h 22 (k : Int) = s.2 k
def FdM (h : Hp) (s : Nat × (Nat → Int)) : Prop := h 2000 6 = (s.1 : Int) ∧ ∀ k : Nat, k < s.1 → h 2001 (k : Int) = w8 (s.2 k)
def TfC (a k : Int) : Prop := (a = 21 ∧ k = 1) ∨ a = 22
def TfM (a k : Int) : Prop := (a = 2000 ∧ (k = 0 ∨ k = 6)) ∨ a = 2001
section M
variable {h : Hp} {x : Int} {s : Nat × (Nat → Int)}
theorem add_e (A : FdC h s) (hl : s.1 + bcP x 4 ≤ 240) : ∃ h', Tp_add h 21 x = some (0, h') ∧ On TfC h h' ∧ FdC h' (fdP x 4 s) := by
  have W : wp (Tp_add h 21 x) (fun r h' => r = 0 ∧ On TfC h h' ∧ FdC h' (fdP x 4 s)) := by
    unfold Tp_add Tp_add_b3
    refine itr_wp (fun i σ => ∃ h2, σ = (h2, 21, x, shI i) ∧ On TfC h h2 ∧ FdC h2 (fdP x i s)) 4 ?_ ?_ (FU_gt (by decide)) ⟨h, rfl, On.rf, A⟩
    · rintro i σ k hi ⟨h2, rfl, F2, A1, A2⟩ K
      show wp (Tp_add_b3_body k h2 21 x (shI i)) _
      have b := byI_b x i
      have e1 : shI i + (-8) = shI (i + 1) := by unfold shI; omega
      have eb : iand (ishr x (shI i)) 255 = byI x i := rfl
      have l1 := fdP_1 x s i
      have l2 : bcP x (i + 1) ≤ bcP x 4 := by
        have m : ∀ d j, bcP x j ≤ bcP x (j + d) := by
          intro d
          induction d with
          | zero => intro j; exact Nat.le_refl _
          | succ d ih => intro j; exact Nat.le_trans (ih j) (Nat.le_add_right _ _)
        have := m (4 - (i + 1)) (i + 1)
        have e4 : i + 1 + (4 - (i + 1)) = 4 := by omega
        rw [e4] at this
        exact this
      have l3 : bcP x (i + 1) = bcP x i + (if byI x i = 0 then 0 else 1) := rfl
      have ef : fdP x (i + 1) s = fdS x i (fdP x i s) := rfl
      unfold Tp_add_b3_body
      rw [if_neg (by unfold shI; rw [w32_n (by omega) (by omega)]; omega), eb, bd_s, w32_n (x := byI x i) b.1 (by omega), e1]
      by_cases c : byI x i = 0
      · rw [if_pos c]
        refine K _ ⟨h2, rfl, F2, ?_⟩
        rw [ef]
        unfold fdS
        rw [if_pos c]
        exact ⟨A1, A2⟩
      · rw [if_neg c] at l3 ⊢
        rw [cC_s SH21 rfl, A1, w32_n (x := ((fdP x i s).1 : Int)) (by omega) (by omega), if_pos (by omega), put_eq SH22 (by decide) (by omega) (by omega) (by decide), cl_s, pu_s, up_ne (a := 22) (b := 21) (by decide), A1]
        refine K _ ⟨_, rfl, F2.tr ((On.up (Or.inr rfl)).tr (On.up (Or.inl ⟨rfl, rfl⟩))), ?_⟩
        rw [ef]
        unfold fdS
        rw [if_neg c]
        refine ⟨by rw [up_at]; rfl, fun k hk => ?_⟩
        have hk' : k < (fdP x i s).1 + 1 := hk
        rw [up_ne (by decide)]
        show _ = if k = (fdP x i s).1 then byI x i else (fdP x i s).2 k
        by_cases z : k = (fdP x i s).1
        · rw [if_pos z, z, up_at]
        · rw [if_neg z, up_off (by omega)]; exact A2 k (by omega)
    · rintro σ k ⟨h2, rfl, F2, A2⟩
      show wp (Tp_add_b3_body k h2 21 x (shI 4)) _
      unfold Tp_add_b3_body
      rw [if_pos (by decide)]
      exact wp_i ⟨rfl, F2, A2⟩
  obtain ⟨r, h', e, rfl, q⟩ := W
  exact ⟨h', e, q⟩
theorem put_m (A : FdM h s) (hl : s.1 + bcP x 4 ≤ 240) : ∃ h', Md_put h 2000 x = some (0, h') ∧ On TfM h h' ∧ FdM h' (fdP x 4 s) := by
  have W : wp (Md_put h 2000 x) (fun r h' => r = 0 ∧ On TfM h h' ∧ FdM h' (fdP x 4 s)) := by
    unfold Md_put Md_put_b3
    refine itr_wp (fun i σ => ∃ h2, σ = (h2, 2000, x, shI i) ∧ On TfM h h2 ∧ FdM h2 (fdP x i s)) 4 ?_ ?_ (FU_gt (by decide)) ⟨h, rfl, On.rf, A⟩
    · rintro i σ k hi ⟨h2, rfl, F2, A1, A2⟩ K
      show wp (Md_put_b3_body k h2 2000 x (shI i)) _
      have b := byI_b x i
      have e1 : shI i + (-8) = shI (i + 1) := by unfold shI; omega
      have eb : iand (ishr x (shI i)) 255 = byI x i := rfl
      have l1 := fdP_1 x s i
      have l2 : bcP x (i + 1) ≤ bcP x 4 := by
        have m : ∀ d j, bcP x j ≤ bcP x (j + d) := by
          intro d
          induction d with
          | zero => intro j; exact Nat.le_refl _
          | succ d ih => intro j; exact Nat.le_trans (ih j) (Nat.le_add_right _ _)
        have := m (4 - (i + 1)) (i + 1)
        have e4 : i + 1 + (4 - (i + 1)) = 4 := by omega
        rw [e4] at this
        exact this
      have l3 : bcP x (i + 1) = bcP x i + (if byI x i = 0 then 0 else 1) := rfl
      have ef : fdP x (i + 1) s = fdS x i (fdP x i s) := rfl
      unfold Md_put_b3_body
      rw [if_neg (by unfold shI; rw [w32_n (by omega) (by omega)]; omega), w8_255, eb, w32_n (x := byI x i) b.1 (by omega), e1]
      by_cases c : byI x i = 0
      · rw [if_pos c]
        refine K _ ⟨h2, rfl, F2, ?_⟩
        rw [ef]
        unfold fdS
        rw [if_pos c]
        exact ⟨A1, A2⟩
      · rw [if_neg c] at l3 ⊢
        rw [cC_s SH2000' rfl, A1, cY_s SH2001 (by decide) (by omega) (by omega) (by decide), pu_s, pu_s, w32_n (x := ((fdP x i s).1 : Int)) (by omega) (by omega), up_ne (a := 2001) (b := 2000) (by decide), A1]
        refine K _ ⟨_, rfl, F2.tr ((On.up (Or.inr rfl)).tr (On.up (Or.inl ⟨rfl, Or.inr rfl⟩))), ?_⟩
        rw [ef]
        unfold fdS
        rw [if_neg c]
        refine ⟨by rw [up_at]; rfl, fun k hk => ?_⟩
        have hk' : k < (fdP x i s).1 + 1 := hk
        rw [up_ne (by decide)]
        show _ = w8 (if k = (fdP x i s).1 then byI x i else (fdP x i s).2 k)
        by_cases z : k = (fdP x i s).1
        · rw [if_pos z, z, up_at]
        · rw [if_neg z, up_off (by omega)]; exact A2 k (by omega)
    · rintro σ k ⟨h2, rfl, F2, A2⟩
      show wp (Md_put_b3_body k h2 2000 x (shI 4)) _
      unfold Md_put_b3_body
      rw [if_pos (by decide)]
      exact wp_i ⟨rfl, F2, A2⟩
  obtain ⟨r, h', e, rfl, q⟩ := W
  exact ⟨h', e, q⟩
end M
def Tfd (a k : Int) : Prop := (a = 21 ∧ k = 1) ∨ a = 22 ∨ (a = 2000 ∧ (k = 0 ∨ k = 6)) ∨ a = 2001
theorem So_feed : S_feed Inv := by
  intro h a1 a2 a3 a4 a5 I i1 i2 i3 i4 i5
  have J := I
  obtain ⟨n, W, lc, sc, ru, pd, wd, f, ly, k0, sn, Tp, Ct, Lw, Lh, Mm, Ss, Sn, Nw, Lg, Td, Im, Pa, Gv, Rw⟩ := J
  have Tp0 := Tp
  obtain ⟨L, B, b, t1, t2, t3, t4⟩ := Tp0
  have L240 := b.1
  have b1 := bcP_b a1 4
  have b2 := bcP_b a2 4
  have b3 := bcP_b a3 4
  have b4 := bcP_b a4 4
  have b5 := bcP_b a5 4
  have o6 : up h 2000 0 0 2000 6 = (L : Int) := by rw [up_off (by decide)]; exact t2
  unfold Cc_feed Md_feed
  rw [bytes_e, cl_s, bytes_e, cl_s, bytes_e, cl_s, bytes_e, cl_s, bytes_e, cl_s, bd_s, cC_s SH20' rfl, cC_s SH21 rfl, t1]
  by_cases c : L + (bcP a1 4 + bcP a2 4 + bcP a3 4 + bcP a4 4 + bcP a5 4) ≤ 240
  · rw [if_neg (by rw [w32_n (by omega) (by omega)]; omega)]
    obtain ⟨h1, e1, F1, A1⟩ := add_e (h := h) (x := a1) (s := (L, B)) ⟨t1, t3⟩ (by show L + bcP a1 4 ≤ 240; omega)
    have l1 : (fdP a1 4 (L, B)).1 = L + bcP a1 4 := fdP_1 a1 (L, B) 4
    obtain ⟨h2, e2, F2, A2⟩ := add_e (x := a2) A1 (by omega)
    have l2 := fdP_1 a2 (fdP a1 4 (L, B)) 4
    obtain ⟨h3, e3, F3, A3⟩ := add_e (x := a3) A2 (by omega)
    have l3 := fdP_1 a3 (fdP a2 4 (fdP a1 4 (L, B))) 4
    obtain ⟨h4, e4, F4, A4⟩ := add_e (x := a4) A3 (by omega)
    have l4 := fdP_1 a4 (fdP a3 4 (fdP a2 4 (fdP a1 4 (L, B)))) 4
    obtain ⟨h5, e5, F5, A5⟩ := add_e (x := a5) A4 (by omega)
    have l5 := fdP_1 a5 (fdP a4 4 (fdP a3 4 (fdP a2 4 (fdP a1 4 (L, B))))) 4
    have Fc : On TfC h h5 := (((F1.tr F2).tr F3).tr F4).tr F5
    have M0 : FdM (up h5 2000 0 0) (L, B) := by
      refine ⟨by rw [up_off (by decide), Fc 2000 6 (fun q => by unfold TfC at q; omega)]; exact t2, fun k hk => ?_⟩
      rw [up_ne (by decide), Fc 2001 _ (fun q => by unfold TfC at q; omega)]
      exact t4 k hk
    have F0 : On TfM h5 (up h5 2000 0 0) := On.up (Or.inl ⟨rfl, Or.inl rfl⟩)
    have o6' : up h5 2000 0 0 2000 6 = (L : Int) := M0.1
    generalize hg : up h5 2000 0 0 = g0 at *
    obtain ⟨g1, k1, G1, B1⟩ := put_m (x := a1) M0 (by show L + bcP a1 4 ≤ 240; omega)
    obtain ⟨g2, k2, G2, B2⟩ := put_m (x := a2) B1 (by omega)
    obtain ⟨g3, k3, G3, B3⟩ := put_m (x := a3) B2 (by omega)
    obtain ⟨g4, k4, G4, B4⟩ := put_m (x := a4) B3 (by omega)
    obtain ⟨g5, k5, G5, B5⟩ := put_m (x := a5) B4 (by omega)
    have Fm : On TfM h5 g5 := ((((F0.tr G1).tr G2).tr G3).tr G4).tr G5
    rw [e1, cl_s, e2, cl_s, e3, cl_s, e4, cl_s, e5, cl_s, A5.1]
    refine ⟨_, h5, ((fdP a5 4 (fdP a4 4 (fdP a3 4 (fdP a2 4 (fdP a1 4 (L, B)))))).1 : Int), g5, rfl, ?_, rfl, ?_⟩
    · rw [cC_s SH2000' rfl, pu_s, hg, bytes_m, cl_s, bytes_m, cl_s, bytes_m, cl_s, bytes_m, cl_s, bytes_m, cl_s, o6', if_neg (by rw [w32_n (by omega) (by omega)]; omega), k1, cl_s, k2, cl_s, k3, cl_s, k4, cl_s, k5, cl_s, B5.1]
    · have F : On Tfd h g5 := (Fc.w (fun a k q => by unfold TfC at q; unfold Tfd; omega)).tr (Fm.w (fun a k q => by unfold TfM at q; unfold Tfd; omega))
      have bb := fdP_b a5 (fdP_b a4 (fdP_b a3 (fdP_b a2 (fdP_b a1 (s := (L, B)) b.2 4) 4) 4) 4) 4
      have r21 : g5 21 = h5 21 := Fm.row (fun k q => by unfold TfM at q; omega)
      have r22 : g5 22 = h5 22 := Fm.row (fun k q => by unfold TfM at q; omega)
      exact ⟨n, W, lc, sc, ru, pd, wd, f, ly, k0, sn, ⟨_, _, ⟨by omega, bb⟩, by rw [r21]; exact A5.1, B5.1, fun k hk => by rw [r22]; exact A5.2 k hk, B5.2⟩, Ct.e (F.e (fun a k t c => by have z := Ct.1.1.1; unfold Tfd at t; unfold CtC at c; omega)), Lw.e (F.e (fun a k t c => by have z := Lw.2.2.1; unfold Tfd at t; unfold LwC at c; omega)), Lh.e (F.e (fun a k t c => by unfold Tfd at t; unfold LhC at c; omega)), MmI.e Mm (F.e (fun a k t c => by unfold Tfd at t; unfold MmC at c; omega)), Ss.e (F.e (fun a k t c => by have z := Ss.2.2.1; unfold Tfd at t; unfold SsC at c; omega)), Sn.e (F.e (fun a k t c => by unfold Tfd at t; unfold SnC at c; omega)), Nw.e (F.e (fun a k t c => by unfold Tfd at t; unfold NwC at c; omega)), lg_on F (fun a k t c => by unfold Tfd at t; unfold LgC at c; omega) Lg, Td.e (F.e (fun a k t c => by unfold Tfd at t; unfold TdC at c; omega)), Im.e (F.e (fun a k t c => by unfold Tfd at t; unfold ImC at c; omega)), Pa.e (F.e (fun a k t c => by unfold Tfd at t; unfold PaC at c; omega)), Gv.e (F.e (fun a k t c => by unfold Tfd at t; unfold GvC at c; omega)), Rw.e (F.e (fun a k t c => by unfold Tfd at t; unfold RwC at c; omega))⟩
  · rw [if_pos (by rw [w32_n (by omega) (by omega)]; omega)]
    refine ⟨_, _, -1, up h 2000 0 0, rfl, ?_, rfl, Inv.qs I t0_sc⟩
    · rw [cC_s SH2000' rfl, pu_s, bytes_m, cl_s, bytes_m, cl_s, bytes_m, cl_s, bytes_m, cl_s, bytes_m, cl_s, o6, if_pos (by rw [w32_n (by omega) (by omega)]; omega)]
end PureFeed
