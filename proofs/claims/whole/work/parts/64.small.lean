section PureSmall
/-! LOG, COUNT, LAW, SIN, END, STEP, PERSON -/
theorem SH60 : SH 60 = (3, 0) := by decide +kernel
theorem SH61 : SH 61 = (100, 1000) := by decide +kernel
theorem SH55 : SH 55 = (4, 0) := by decide +kernel
theorem SH65 : SH 65 = (1, 0) := by decide +kernel
theorem I01 : ir 0 ∧ ir 1 ∧ ir 2 ∧ ir 3 ∧ ir 4 ∧ ir 5 ∧ ir 9 ∧ ir 30 ∧ ir 50 ∧ ir (-1) := by unfold ir; omega
theorem wn1 : ¬ w32 1 = 0 := by decide
theorem wz0 : w32 0 = 0 := by decide
theorem so_h {A : Option (Int × Hp)} {B : Hp → Option (Int × Hp)} {I : Hp → Prop} {h : Hp} (k : ∃ r, A = some (r, h) ∧ ∃ (r2 : Int) (h2 : Hp), B h = some (r2, h2) ∧ w32 r = w32 r2 ∧ I h2) : ∃ (r : Int) (h1 : Hp) (r2 : Int) (h2 : Hp), A = some (r, h1) ∧ B h1 = some (r2, h2) ∧ w32 r = w32 r2 ∧ I h2 := by
  obtain ⟨r, e1, r2, h2, e2, e3, e4⟩ := k
  exact ⟨r, h, r2, h2, e1, e2, e3, e4⟩
theorem so_s {B : Hp → Option (Int × Hp)} {I : Hp → Prop} {r : Int} {h1 : Hp} (k : ∃ (r2 : Int) (h2 : Hp), B h1 = some (r2, h2) ∧ w32 r = w32 r2 ∧ I h2) : ∃ (r' : Int) (h' : Hp) (r2 : Int) (h2 : Hp), some (r, h1) = some (r', h') ∧ B h' = some (r2, h2) ∧ w32 r' = w32 r2 ∧ I h2 := by
  obtain ⟨r2, h2, e2, e3, e4⟩ := k
  exact ⟨r, h1, r2, h2, rfl, e2, e3, e4⟩
theorem len_e {h : Hp} {n : Nat} {f : Int → Int} (A : StA h 110 n f) (e0 : 0 ≤ f 51) (e1 : f 51 ≤ 999) : Lg_lengthAt h 110 = some (min 60 (f 51), h) := by
  have e : h 110 8 = f 51 := by rw [← A.2.2.1]; exact cR_51.symm
  unfold Lg_lengthAt
  rw [cC_s (IsS_sh A.1).1 rfl, e, w32_n e0 (by omega)]
  by_cases c : f 51 < 60
  · rw [if_pos c, show min 60 (f 51) = f 51 by omega]
  · rw [if_neg c, show min 60 (f 51) = 60 by omega]
theorem So_log : S_log Inv := by
  intro h a1 a2 I i1 i2
  have J := I
  obtain ⟨n, W, lc, sc, ru, pd, wd, f, ly, k, sn, Tp, Ct, Lw, Lh, Mm, Ss, Sn, ⟨A, M, -, -, fb⟩, Lg, -⟩ := J
  obtain ⟨L1, L2⟩ := Lg
  have e8 : h 110 8 = f 51 := by rw [← A.2.2.1]; exact cR_51.symm
  unfold Cc_log Md_log
  refine so_h (h := h) ?_
  have e52 : up h 2000 0 0 2032 52 = min 60 (f 51) := by rw [up_ne (by decide)]; exact L1
  rw [ri i1, cC_s SH20' rfl, len_e A fb.1 fb.2, cl_s, cC_s SH2000' rfl, pu_s, cX_s SH2032' (by decide) (by decide) (by decide), rd_ge (by decide), e52, w32_id (x := min 60 (f 51) - 1) (by omega) (by omega), w32_n (x := min 60 (f 51)) (by omega) (by omega)]
  by_cases c : 0 ≤ a1 ∧ a1 ≤ min 60 (f 51) - 1
  · have ien := L2 a1 c.1 (by omega)
    obtain ⟨q0, q1, q2⟩ := ien
    rw [if_neg (by omega), if_pos (by omega), cC_s (IsS_sh A.1).1 rfl, cC_s SH60 rfl, isIn1 i1 ⟨by decide, by decide⟩ ⟨by omega, by omega⟩ c, cl_s, if_neg wn1, ri i2]
    unfold Lg_read
    rw [cC_s SH60 rfl, e8, at_eq SH61 (by decide) (by omega) (by omega) (by decide), cl_s, ri i2]
    have val : ∀ z : Int, 0 ≤ z → z ≤ 2 → (cX 100 2032 52 (cX 100 2032 (53 + 3 * (rd (up h 2000 0 0) 2032 52 - 1 - a1) + z) (some (rd (up h 2000 0 0) 2032 (w32 (53 + 3 * (rd (up h 2000 0 0) 2032 52 - 1 - a1) + z)), up h 2000 0 0)))) = some (lgF (h 2032) a1 z, up h 2000 0 0) := by
      intro z z0 z1
      have e52' : up h 2000 0 0 2032 52 = min 60 (f 51) := e52
      rw [cX_s SH2032' (by decide) (by decide) (by decide), rd_ge (by decide), e52', cX_s SH2032' (by omega) (by omega) (by decide), w32_n (x := 53 + 3 * (min 60 (f 51) - 1 - a1) + z) (by omega) (by omega), rd_ge (by decide), up_ne (by decide)]
      unfold lgF
      rw [L1]
    by_cases z : 0 ≤ a2 ∧ a2 ≤ 2
    · rw [isIn1 i2 I01.1 I01.2.2.1 z, cl_s, if_neg wn1, val a2 z.1 z.2]
      have : a2 = 0 ∨ a2 = 1 ∨ a2 = 2 := by omega
      rcases this with e | e | e <;> subst e
      · rw [if_pos rfl, cl_s, q0]
        exact ⟨_, rfl, _, _, rfl, rfl, Inv.qs I t0_sc⟩
      · rw [if_neg (by decide), if_pos rfl, cl_s, q1]
        exact ⟨_, rfl, _, _, rfl, rfl, Inv.qs I t0_sc⟩
      · rw [if_neg (by decide), if_neg (by decide), if_pos rfl, cl_s, q2]
        exact ⟨_, rfl, _, _, rfl, rfl, Inv.qs I t0_sc⟩
    · rw [isIn0 i2 I01.1 I01.2.2.1 z, cl_s, if_pos wz0, if_neg (by omega), if_neg (by omega), if_neg (by omega), cl_s]
      exact ⟨_, rfl, _, _, rfl, rfl, Inv.qs I t0_sc⟩
  · rw [isIn0 i1 ⟨by decide, by decide⟩ ⟨by omega, by omega⟩ c, cl_s, if_pos wz0]
    by_cases z : a1 < 0
    · rw [if_pos z]
      exact ⟨_, rfl, _, _, rfl, rfl, Inv.qs I t0_sc⟩
    · rw [if_neg z, if_neg (by omega)]
      exact ⟨_, rfl, _, _, rfl, rfl, Inv.qs I t0_sc⟩
theorem So_count : S_count Inv := by
  intro h a1 I i1
  have J := I
  obtain ⟨n, W, lc, sc, ru, pd, wd, f, ly, k, sn, ⟨L, B, b, t1, t2, t3⟩, ⟨Ca, Cm, Cb, dr⟩, Lw, Lh, Mm, Ss, Sn, ⟨A, M, fb⟩, Lg, Td, Im, ⟨fst, acts, F, p1, p2, p3, -⟩, ⟨gc, g1, g2, -⟩, Rw⟩ := J
  have o : ∀ k : Int, k ≠ 0 → up h 2000 0 0 2000 k = h 2000 k := fun k hk => up_off hk
  have o2 : ∀ (a k : Int), a ≠ 2000 → up h 2000 0 0 a k = h a k := fun a k ha => up_ne ha k
  have e6 : h 110 6 = f 49 := by rw [← A.2.2.1]; exact cR_49.symm
  have e8 : h 110 8 = f 51 := by rw [← A.2.2.1]; exact cR_51.symm
  have s0 := Ca.shc.1
  have s7 := (IsS_sh A.1).1
  have fin : ∀ (X Y : Option (Int × Hp)) (r r2 : Int), X = some (r, h) → Y = some (r2, up h 2000 0 0) → r = r2 → ∃ r : Int, X = some (r, h) ∧ ∃ (r2 : Int) (h2 : Hp), Y = some (r2, h2) ∧ w32 r = w32 r2 ∧ Inv h2 := fun X Y r r2 e1 e2 e3 => ⟨r, e1, r2, _, e2, by rw [e3], Inv.qs I t0_sc⟩
  have m : ∀ (Z : Hp → Option (Int × Hp)), (∀ g, Z g = Z g) → True := fun _ _ => trivial
  have em : Md_count h 2000 a1 = (fun h2 : Hp => if w32 a1 = 0 then some ((h2 2000 26), h2) else if w32 a1 = 1 then some ((h2 2000 27), h2) else if w32 a1 = 2 then some ((h2 2000 7), h2) else if w32 a1 = 3 then some ((h2 2000 30), h2) else if w32 a1 = 4 then some ((h2 2000 6), h2) else if w32 a1 = 5 then some ((h2 2000 34), h2) else if w32 a1 = 6 then cX 100 2032 51 (some ((rd h2 2032 51), h2)) else if w32 a1 = 7 then cX 100 2032 49 (some ((rd h2 2032 49), h2)) else if w32 a1 = 8 then if w32 (h2 2000 26) = 0 then some (0, h2) else cX 100 2018 0 (some ((rd h2 2018 0), h2)) else if w32 a1 = 9 then some ((h2 2000 35), h2) else if w32 a1 = 10 then some ((h2 2000 50), h2) else if w32 a1 = 11 then cX 100 2032 52 (some ((rd h2 2032 52), h2)) else if w32 a1 = 12 then some ((h2 2000 42), h2) else some ((-1000000), h2)) (up h 2000 0 0) := by
    unfold Md_count
    rw [cC_s SH2000' rfl, pu_s]
  unfold Cc_count
  refine so_h (h := h) ?_
  rw [em]
  dsimp only
  rw [ri i1, o 26 (by decide), o 27 (by decide), o 7 (by decide), o 30 (by decide), o 6 (by decide), o 34 (by decide), o 35 (by decide), o 50 (by decide), o 42 (by decide)]
  by_cases c0 : a1 = 0
  · rw [if_pos c0, if_pos c0]
    exact fin _ _ _ _ (by rw [cC_s SH20' rfl, cC_s s0 rfl]) rfl (by rw [Ca.1.2.1, Cm.1])
  rw [if_neg c0, if_neg c0]
  by_cases c1 : a1 = 1
  · rw [if_pos c1, if_pos c1]
    exact fin _ _ _ _ (by rw [cC_s SH20' rfl, cC_s s0 rfl]) rfl (by rw [Ca.2.1, Cm.2.2.1])
  rw [if_neg c1, if_neg c1]
  by_cases c2 : a1 = 2
  · rw [if_pos c2, if_pos c2]
    exact fin _ _ _ _ (by rw [cC_s SH20' rfl]) rfl (by rw [Lw.1, Lw.2.1])
  rw [if_neg c2, if_neg c2]
  by_cases c3 : a1 = 3
  · rw [if_pos c3, if_pos c3]
    exact fin _ _ _ _ (by rw [cC_s SH20' rfl]) rfl (by rw [Ss.1, Ss.2.1])
  rw [if_neg c3, if_neg c3]
  by_cases c4 : a1 = 4
  · rw [if_pos c4, if_pos c4]
    exact fin _ _ _ _ (by rw [cC_s SH20' rfl, cC_s SH21 rfl]) rfl (by rw [t1, t2])
  rw [if_neg c4, if_neg c4]
  by_cases c5 : a1 = 5
  · rw [if_pos c5, if_pos c5]
    exact fin _ _ _ _ (by rw [cC_s SH20' rfl]) rfl (by rw [Lh.1, Lh.2.1])
  rw [if_neg c5, if_neg c5]
  by_cases c6 : a1 = 6
  · rw [if_pos c6, if_pos c6]
    exact fin _ _ _ _ (by rw [cC_s SH20' rfl, cC_s s7 rfl]) (by rw [cX_s SH2032' (by decide) (by decide) (by decide)]) (by rw [rd_ge (by decide), o2 _ _ (by decide), e8, M.rd (by decide) (by decide)])
  rw [if_neg c6, if_neg c6]
  by_cases c7 : a1 = 7
  · rw [if_pos c7, if_pos c7]
    exact fin _ _ _ _ (by rw [cC_s SH20' rfl, cC_s s7 rfl]) (by rw [cX_s SH2032' (by decide) (by decide) (by decide)]) (by rw [rd_ge (by decide), o2 _ _ (by decide), e6, M.rd (by decide) (by decide)])
  rw [if_neg c7, if_neg c7]
  by_cases c8 : a1 = 8
  · have n6 := Ca.1.2.2
    rw [if_pos c8, if_pos c8, cC_s SH20' rfl, Cm.1, w32_n (x := (n : Int)) (by omega) (by omega)]
    by_cases z : n = 0
    · rw [told0 Ca.1 z, cl_s, if_pos wz0, if_pos (by omega)]
      exact fin _ _ _ _ rfl rfl rfl
    · rw [told1 Ca.1 z, cl_s, if_neg wn1, if_neg (by omega), cC_s s0 rfl, c_most Ca, cl_s]
      exact fin _ _ _ _ rfl (by rw [cX_s SH2018 (by decide) (by decide) (by decide)]) (by rw [rd_ge (by decide), o2 _ _ (by decide), Cm.2.2.2.2.1 0 (by decide) (by decide)])
  rw [if_neg c8, if_neg c8]
  by_cases c9 : a1 = 9
  · rw [if_pos c9, if_pos c9]
    exact fin _ _ _ _ (by rw [cC_s SH20' rfl]) rfl (by rw [Sn.1, Sn.2.1])
  rw [if_neg c9, if_neg c9]
  by_cases c10 : a1 = 10
  · rw [if_pos c10, if_pos c10]
    exact fin _ _ _ _ (by rw [cC_s SH20' rfl, cC_s SH65 rfl]) rfl (by rw [g1, g2])
  rw [if_neg c10, if_neg c10]
  by_cases c11 : a1 = 11
  · rw [if_pos c11, if_pos c11, cC_s SH20' rfl, len_e A fb.2.2.1 fb.2.2.2, cl_s]
    exact fin _ _ _ _ rfl (by rw [cX_s SH2032' (by decide) (by decide) (by decide)]) (by rw [rd_ge (by decide), o2 _ _ (by decide), Lg.1])
  rw [if_neg c11, if_neg c11]
  by_cases c12 : a1 = 12
  · rw [if_pos c12, if_pos c12]
    exact fin _ _ _ _ (by rw [cC_s SH20' rfl, cC_s SH55 rfl]) rfl (by rw [p2, p3])
  rw [if_neg c12, if_neg c12]
  exact fin _ _ _ _ rfl rfl rfl
def Tlaw (a k : Int) : Prop := (a = 20 ∧ k = 6) ∨ (a = 2000 ∧ (k = 0 ∨ k = 34))
theorem So_law : S_law Inv := by
  intro h a1 I i1
  have J := I
  obtain ⟨n, W, lc, sc, ru, pd, wd, f, ly, k0, sn, Tp, Ct, Lw, Lh, Mm, Ss, Sn, Nw, Lg, Td, Im, Pa, Gv, Rw⟩ := J
  have n4 := Lw.2.2.1
  have F1 : On SCA h (up h 2000 0 0) := t0_sc
  have set : ∀ v : Int, -1 ≤ v → v < (lc : Int) → Inv (up (up (up h 20 6 v) 2000 0 0) 2000 34 v) := fun v v0 v1 => by
    have F : On Tlaw h (up (up (up h 20 6 v) 2000 0 0) 2000 34 v) := ((On.up (Or.inl ⟨rfl, rfl⟩)).tr (On.up (Or.inr ⟨rfl, Or.inl rfl⟩))).tr (On.up (Or.inr ⟨rfl, Or.inr rfl⟩))
    exact ⟨n, W, lc, sc, ru, pd, wd, f, ly, v, sn, Tp.e (F.e (fun a k t c => by unfold Tlaw at t; unfold TpC at c; omega)), Ct.e (F.e (fun a k t c => by have z := Ct.1.1.1; unfold Tlaw at t; unfold CtC at c; omega)), Lw.e (F.e (fun a k t c => by have z := Lw.2.2.1; unfold Tlaw at t; unfold LwC at c; omega)), ⟨by rw [up_ne (by decide), up_ne (by decide), up_at], up_at, v0, v1⟩, MmI.e Mm (F.e (fun a k t c => by unfold Tlaw at t; unfold MmC at c; omega)), Ss.e (F.e (fun a k t c => by have z := Ss.2.2.1; unfold Tlaw at t; unfold SsC at c; omega)), Sn.e (F.e (fun a k t c => by unfold Tlaw at t; unfold SnC at c; omega)), Nw.e (F.e (fun a k t c => by unfold Tlaw at t; unfold NwC at c; omega)), lg_on F (fun a k t c => by unfold Tlaw at t; unfold LgC at c; omega) Lg, Td.e (F.e (fun a k t c => by unfold Tlaw at t; unfold TdC at c; omega)), Im.e (F.e (fun a k t c => by unfold Tlaw at t; unfold ImC at c; omega)), Pa.e (F.e (fun a k t c => by unfold Tlaw at t; unfold PaC at c; omega)), Gv.e (F.e (fun a k t c => by unfold Tlaw at t; unfold GvC at c; omega)), Rw.e (F.e (fun a k t c => by unfold Tlaw at t; unfold RwC at c; omega))⟩
  unfold Cc_law Md_law Md_law_b28
  rw [ri i1, cC_s SH20' rfl, Lw.1, w32_n (x := (lc : Int)) (by omega) (by omega)]
  by_cases c1 : a1 < -1
  · rw [if_pos c1]
    refine so_s ?_
    rw [cC_s SH2000' rfl, pu_s, if_neg (by omega), up_off (by decide), Lw.2.1, w32_id (x := (lc : Int) - 1) (by omega) (by omega), isIn0 i1 ⟨by decide, by decide⟩ ⟨by omega, by omega⟩ (by omega), cl_s, if_pos wz0]
    exact ⟨_, _, rfl, rfl, Inv.qs I t0_sc⟩
  · rw [if_neg c1]
    by_cases c2 : a1 < (lc : Int)
    · rw [if_pos c2, pu_s]
      refine so_s ?_
      refine ⟨1, up (up (up h 20 6 a1) 2000 0 0) 2000 34 a1, ?_, rfl, set a1 (by omega) c2⟩
      have e34 : up (up h 20 6 a1) 2000 0 0 2000 7 = (lc : Int) := by rw [up_off (by decide), up_ne (by decide)]; exact Lw.2.1
      rw [cC_s SH2000' rfl, pu_s]
      by_cases c3 : a1 = -1
      · rw [if_pos c3, cC_s SH2000' rfl, pu_s]
      · rw [if_neg c3, e34, w32_id (x := (lc : Int) - 1) (by omega) (by omega), isIn1 i1 ⟨by decide, by decide⟩ ⟨by omega, by omega⟩ (by omega), cl_s, if_neg wn1, cC_s SH2000' rfl, pu_s]
    · rw [if_neg c2]
      refine so_s ?_
      rw [cC_s SH2000' rfl, pu_s, if_neg (by omega), up_off (by decide), Lw.2.1, w32_id (x := (lc : Int) - 1) (by omega) (by omega), isIn0 i1 ⟨by decide, by decide⟩ ⟨by omega, by omega⟩ (by omega), cl_s, if_pos wz0]
      exact ⟨_, _, rfl, rfl, Inv.qs I t0_sc⟩
def Tsin (a k : Int) : Prop := (a = 20 ∧ k = 8) ∨ (a = 2000 ∧ (k = 0 ∨ k = 35))
theorem So_sin : S_sin Inv := by
  intro h a1 I i1
  have J := I
  obtain ⟨n, W, lc, sc, ru, pd, wd, f, ly, k0, sn, Tp, Ct, Lw, Lh, Mm, Ss, Sn, Nw, Lg, Td, Im, Pa, Gv, Rw⟩ := J
  have o35 : up h 2000 0 0 2000 35 = sn := by rw [up_off (by decide)]; exact Sn.2.1
  have no : ∃ (r2 : Int) (h2 : Hp), some ((0 : Int), up h 2000 0 0) = some (r2, h2) ∧ w32 0 = w32 r2 ∧ Inv h2 := ⟨_, _, rfl, rfl, Inv.qs I t0_sc⟩
  have sb := Sn.2.2
  unfold Cc_sin Md_sin
  rw [ri i1, cC_s SH20' rfl, Sn.1, w32_n (x := sn) (by omega) (by omega)]
  by_cases c : 0 ≤ a1 ∧ a1 ≤ 9
  · rw [if_neg (by omega), if_neg (by omega)]
    by_cases z : a1 = sn
    · rw [if_pos z]
      refine so_s ?_
      rw [cC_s SH2000' rfl, pu_s, isIn1 i1 I01.1 I01.2.2.2.2.2.2.1 c, cl_s, if_neg wn1, o35, w32_n (x := sn) (by omega) (by omega), if_pos z]
      exact ⟨_, _, rfl, rfl, Inv.qs I t0_sc⟩
    · rw [if_neg z, pu_s]
      refine so_s ?_
      rw [cC_s SH2000' rfl, pu_s, isIn1 i1 I01.1 I01.2.2.2.2.2.2.1 c, cl_s, if_neg wn1]
      have e35 : up (up h 20 8 a1) 2000 0 0 2000 35 = sn := by rw [up_off (by decide), up_ne (by decide)]; exact Sn.2.1
      rw [e35, w32_n (x := sn) (by omega) (by omega), if_neg z, pu_s]
      refine ⟨_, _, rfl, rfl, ?_⟩
      have F : On Tsin h (up (up (up h 20 8 a1) 2000 0 0) 2000 35 a1) := ((On.up (Or.inl ⟨rfl, rfl⟩)).tr (On.up (Or.inr ⟨rfl, Or.inl rfl⟩))).tr (On.up (Or.inr ⟨rfl, Or.inr rfl⟩))
      exact ⟨n, W, lc, sc, ru, pd, wd, f, ly, k0, a1, Tp.e (F.e (fun a k t c => by unfold Tsin at t; unfold TpC at c; omega)), Ct.e (F.e (fun a k t c => by have z := Ct.1.1.1; unfold Tsin at t; unfold CtC at c; omega)), Lw.e (F.e (fun a k t c => by have z := Lw.2.2.1; unfold Tsin at t; unfold LwC at c; omega)), Lh.e (F.e (fun a k t c => by unfold Tsin at t; unfold LhC at c; omega)), MmI.e Mm (F.e (fun a k t c => by unfold Tsin at t; unfold MmC at c; omega)), Ss.e (F.e (fun a k t c => by have z := Ss.2.2.1; unfold Tsin at t; unfold SsC at c; omega)), ⟨by rw [up_ne (by decide), up_ne (by decide), up_at], up_at, c.1, c.2⟩, Nw.e (F.e (fun a k t c => by unfold Tsin at t; unfold NwC at c; omega)), lg_on F (fun a k t c => by unfold Tsin at t; unfold LgC at c; omega) Lg, Td.e (F.e (fun a k t c => by unfold Tsin at t; unfold TdC at c; omega)), Im.e (F.e (fun a k t c => by unfold Tsin at t; unfold ImC at c; omega)), Pa.e (F.e (fun a k t c => by unfold Tsin at t; unfold PaC at c; omega)), Gv.e (F.e (fun a k t c => by unfold Tsin at t; unfold GvC at c; omega)), Rw.e (F.e (fun a k t c => by unfold Tsin at t; unfold RwC at c; omega))⟩
  · by_cases z : a1 < 0
    · rw [if_pos z]
      refine so_s ?_
      rw [cC_s SH2000' rfl, pu_s, isIn0 i1 I01.1 I01.2.2.2.2.2.2.1 c, cl_s, if_pos wz0]
      exact no
    · rw [if_neg z, if_pos (by omega)]
      refine so_s ?_
      rw [cC_s SH2000' rfl, pu_s, isIn0 i1 I01.1 I01.2.2.2.2.2.2.1 c, cl_s, if_pos wz0]
      exact no
def Tend (a k : Int) : Prop := (a = 21 ∧ k = 1) ∨ (a = 2000 ∧ (k = 0 ∨ k = 6))
theorem So_end : S_end Inv := by
  intro h a1 I i1
  have J := I
  obtain ⟨n, W, lc, sc, ru, pd, wd, f, ly, k0, sn, Tp, Ct, Lw, Lh, Mm, Ss, Sn, Nw, Lg, Td, Im, Pa, Gv, Rw⟩ := J
  have Tp0 := Tp
  obtain ⟨L, B, b, t1, t2, t3, t4⟩ := Tp0
  have L240 := b.1
  have o6 : up h 2000 0 0 2000 6 = (L : Int) := by rw [up_off (by decide)]; exact t2
  have no : ∃ (r2 : Int) (h2 : Hp), some ((0 : Int), up h 2000 0 0) = some (r2, h2) ∧ w32 0 = w32 r2 ∧ Inv h2 := ⟨_, _, rfl, rfl, Inv.qs I t0_sc⟩
  unfold Cc_end Md_end
  rw [ri i1, cC_s SH20' rfl, cC_s SH21 rfl, t1, w32_n (x := (L : Int)) (by omega) (by omega)]
  by_cases c1 : a1 < 0
  · rw [if_pos c1]
    refine so_s ?_
    rw [cC_s SH2000' rfl, pu_s, if_pos c1]; exact no
  · rw [if_neg c1]
    by_cases c2 : (L : Int) < a1
    · rw [if_pos c2]
      refine so_s ?_
      rw [cC_s SH2000' rfl, pu_s, if_neg c1, o6, w32_n (x := (L : Int)) (by omega) (by omega), if_pos c2]; exact no
    · rw [if_neg c2, pu_s]
      refine so_s ?_
      rw [cC_s SH2000' rfl, pu_s, if_neg c1]
      have e6 : up (up h 21 1 a1) 2000 0 0 2000 6 = (L : Int) := by rw [up_off (by decide), up_ne (by decide)]; exact t2
      rw [e6, w32_n (x := (L : Int)) (by omega) (by omega), if_neg c2, pu_s]
      refine ⟨_, _, rfl, rfl, ?_⟩
      have F : On Tend h (up (up (up h 21 1 a1) 2000 0 0) 2000 6 a1) := ((On.up (Or.inl ⟨rfl, rfl⟩)).tr (On.up (Or.inr ⟨rfl, Or.inl rfl⟩))).tr (On.up (Or.inr ⟨rfl, Or.inr rfl⟩))
      exact ⟨n, W, lc, sc, ru, pd, wd, f, ly, k0, sn, ⟨a1.toNat, B, ⟨by omega, fun k hk => b.2 k (by omega)⟩, by rw [up_ne (by decide), up_ne (by decide), up_at]; omega, by rw [up_at]; omega, fun k hk => by rw [up_ne (by decide), up_ne (by decide), up_ne (by decide)]; exact t3 k (by omega), fun k hk => by rw [up_ne (by decide), up_ne (by decide), up_ne (by decide)]; exact t4 k (by omega)⟩, Ct.e (F.e (fun a k t c => by have z := Ct.1.1.1; unfold Tend at t; unfold CtC at c; omega)), Lw.e (F.e (fun a k t c => by have z := Lw.2.2.1; unfold Tend at t; unfold LwC at c; omega)), Lh.e (F.e (fun a k t c => by unfold Tend at t; unfold LhC at c; omega)), MmI.e Mm (F.e (fun a k t c => by unfold Tend at t; unfold MmC at c; omega)), Ss.e (F.e (fun a k t c => by have z := Ss.2.2.1; unfold Tend at t; unfold SsC at c; omega)), Sn.e (F.e (fun a k t c => by unfold Tend at t; unfold SnC at c; omega)), Nw.e (F.e (fun a k t c => by unfold Tend at t; unfold NwC at c; omega)), lg_on F (fun a k t c => by unfold Tend at t; unfold LgC at c; omega) Lg, Td.e (F.e (fun a k t c => by unfold Tend at t; unfold TdC at c; omega)), Im.e (F.e (fun a k t c => by unfold Tend at t; unfold ImC at c; omega)), Pa.e (F.e (fun a k t c => by unfold Tend at t; unfold PaC at c; omega)), Gv.e (F.e (fun a k t c => by unfold Tend at t; unfold GvC at c; omega)), Rw.e (F.e (fun a k t c => by unfold Tend at t; unfold RwC at c; omega))⟩
/-! sessions asked for -/
theorem sesAt_e (h : Hp) {i : Int} (i0 : 0 ≤ i) (i1 : i < 5) : Cc_sessionAt h 20 i = some (1100 + 10 * i, h) := by
  have SH51 : SH 51 = (111, 5) := by decide +kernel
  unfold Cc_sessionAt Cc_sessionAt_b23
  have e5 : w32 ((5 : Nat) : Int) = 5 := by decide
  rw [w32_n i0 (by omega), if_neg (by omega), cC_s SH20' rfl, cN_s SH51 (by decide) (by decide), SH51, e5, if_pos i1, cX_s SH51 i0 i1 (by decide)]
  have e : PT 51 i = 1100 + 10 * i := by
    unfold PT
    rw [if_neg (by decide), if_neg (by decide), if_pos rfl]
  rw [e, if_neg (by omega)]
theorem isS_1 {h : Hp} {sc : Nat} (Ss : SsI h sc) {a : Int} (ha : ir a) (q : 0 ≤ a ∧ a < (sc : Int)) : Cc_isSession h 20 a = some (1, h) ∧ Md_isPlan h 2000 a = some (1, h) := by
  have s4 := Ss.2.2.1
  unfold Cc_isSession Md_isPlan
  rw [ri ha, cC_s SH20' rfl, cC_s SH2000' rfl, Ss.1, Ss.2.1, w32_n (x := (sc : Int)) (by omega) (by omega), if_neg (by omega), if_pos q.2]
  exact ⟨rfl, rfl⟩
theorem isS_0 {h : Hp} {sc : Nat} (Ss : SsI h sc) {a : Int} (ha : ir a) (q : ¬ (0 ≤ a ∧ a < (sc : Int))) : Cc_isSession h 20 a = some (0, h) ∧ Md_isPlan h 2000 a = some (0, h) := by
  have s4 := Ss.2.2.1
  unfold Cc_isSession Md_isPlan
  rw [ri ha, cC_s SH20' rfl, cC_s SH2000' rfl, Ss.1, Ss.2.1, w32_n (x := (sc : Int)) (by omega) (by omega)]
  by_cases z : a < 0
  · rw [if_pos z]; exact ⟨rfl, rfl⟩
  · rw [if_neg z, if_neg (by omega)]; exact ⟨rfl, rfl⟩
theorem SsI.t0 {h : Hp} {sc : Nat} (Ss : SsI h sc) : SsI (up h 2000 0 0) sc := Ss.e (t0_sc.e (fun a k t c => sd_Ss Ss.2.2.1 a k (Or.inl t) c))
theorem So_step : S_step Inv := by
  intro h a1 a2 a3 I i1 i2 i3
  have J := I
  obtain ⟨n, W, lc, sc, ru, pd, wd, f, ly, k0, sn, Tp, Ct, Lw, Lh, Mm, Ss, Sn, Nw, Lg, Td, Im, Pa, Gv, Rw⟩ := J
  have Sm := SsI.t0 Ss
  unfold Cc_step Md_step
  refine so_h (h := h) ?_
  rw [cC_s SH20' rfl, cC_s SH2000' rfl, pu_s]
  by_cases q : 0 ≤ a1 ∧ a1 < (sc : Int)
  · have s4 := Ss.2.2.1
    obtain ⟨s, sb, s1, ⟨sa1, sa2⟩, m1, m2⟩ := Ss.2.2.2 a1.toNat (by omega)
    have ea : ((a1.toNat : Nat) : Int) = a1 := by omega
    rw [ea] at sa1 sa2 m1 m2
    have s16 := sb.1
    have iN : IsN (1100 + 10 * a1) := ⟨by omega, by omega, by omega⟩
    have e25 : up h 2000 0 0 2025 a1 = (s.1 : Int) := by rw [up_ne (by decide)]; exact m1
    rw [(isS_1 Ss i1 q).1, cl_s, if_neg wn1, sesAt_e h q.1 (by omega), cl_s, ri i2, cC_s (IsN_sh iN).1 rfl, sa1, w32_n (x := (s.1 : Int)) (by omega) (by omega), ri i3, (isS_1 Sm i1 q).2, cl_s, if_neg wn1, cX_s SH2025 q.1 (by omega) (by decide), rd_ge (by decide), w32_n (x := a1) q.1 (by omega), e25, w32_id (x := (s.1 : Int) - 1) (by omega) (by omega)]
    by_cases c2 : 0 ≤ a2 ∧ a2 ≤ (s.1 : Int) - 1
    · rw [if_neg (by omega), if_pos (by omega), isIn1 i2 I01.1 ⟨by omega, by omega⟩ c2, cl_s, if_neg wn1]
      by_cases c3 : 0 ≤ a3 ∧ a3 ≤ 2
      · have e1 : 3 * (16 * a1 + a2) + a3 = 48 * a1 + (3 * a2 + a3) := by omega
        have m3 := m2 (3 * a2 + a3) (by omega) (by omega)
        have s3 := sa2 (3 * a2 + a3) (by omega) (by omega)
        unfold Ss_part
        rw [if_neg (by omega), if_neg (by omega), cC_s (IsN_sh iN).1 rfl, at_eq (IsN_sh iN).2 (by omega) (by omega) (by omega) (by decide), cl_s, cl_s, isIn1 i3 I01.1 I01.2.2.1 c3, cl_s, if_neg wn1, e1, cX_s SH2024 (by omega) (by omega) (by decide), rd_ge (by decide), w32_n (x := 48 * a1 + (3 * a2 + a3)) (by omega) (by omega), up_ne (by decide), m3, s3]
        exact ⟨_, rfl, _, _, rfl, rfl, Inv.qs I t0_sc⟩
      · rw [isIn0 i3 I01.1 I01.2.2.1 c3, cl_s, if_pos wz0]
        by_cases z : a3 < 0
        · rw [if_pos z]; exact ⟨_, rfl, _, _, rfl, rfl, Inv.qs I t0_sc⟩
        · rw [if_neg z, if_pos (by omega)]; exact ⟨_, rfl, _, _, rfl, rfl, Inv.qs I t0_sc⟩
    · rw [isIn0 i2 I01.1 ⟨by omega, by omega⟩ c2, cl_s, if_pos wz0]
      by_cases z : a2 < 0
      · rw [if_pos z]; exact ⟨_, rfl, _, _, rfl, rfl, Inv.qs I t0_sc⟩
      · rw [if_neg z, if_neg (by omega)]; exact ⟨_, rfl, _, _, rfl, rfl, Inv.qs I t0_sc⟩
  · rw [(isS_0 Ss i1 q).1, cl_s, if_pos wz0, (isS_0 Sm i1 q).2, cl_s, if_pos wz0]
    exact ⟨_, rfl, _, _, rfl, rfl, Inv.qs I t0_sc⟩
theorem So_person : S_person Inv := by
  intro h a1 a2 I i1 i2
  have J := I
  obtain ⟨n, W, lc, sc, ru, pd, wd, f, ly, k0, sn, Tp, Ct, Lw, Lh, Mm, Ss, Sn, Nw, Lg, Td, Im, Pa, Gv, Rw⟩ := J
  by_cases q : isP n a1 ∧ 0 ≤ a2 ∧ a2 ≤ 3
  · refine Or.inl ?_
    have F8 : ∀ v : Int, On SCA h (up h 80 0 v) := fun v => On.up (Or.inr (Or.inr (Or.inr (Or.inr (Or.inl rfl)))))
    have e1 := c_person Ct.1 Nw.1 i1 i2 q.1 q.2
    have e2 := m_person1 (h := up h 80 0 (w32 (vlV n f pd a2 a1))) (Ct.2.1.on (F8 _)) (Nw.2.1.on (F8 _)) i1 i2 q.1 q.2
    refine ⟨_, _, _, _, _, _, e1, e2, thrown_e _, by rw [up_at]; decide, by rw [up_ne (by decide), up_at], Inv.qs I ((F8 _).tr t0_sc)⟩
  · refine Or.inr ?_
    have e2 := m_person0 (h := h) Ct.2.1.1 Ct.2.1.2.1 i1 i2 q
    have F1 : On SCA h (up h 2000 0 1) := On.up (by unfold SCA; omega)
    have oa : isP n a1 → a2 < 0 ∨ 3 < a2 := fun p => by
      by_cases z : a2 < 0
      · exact Or.inl z
      · exact Or.inr (Int.not_le.mp (fun z2 => q ⟨p, by omega, z2⟩))
    by_cases p : isP n a1
    · exact ⟨1, 0, _, _, _, c_isP1 Ct.1.1 i1 p, Or.inr (by rw [ri i2]; exact oa p), e2, thrown_e _, by rw [up_at]; decide, Inv.qs I F1⟩
    · exact ⟨0, 0, _, _, _, c_isP0 Ct.1.1 i1 p, Or.inl wz0, e2, thrown_e _, by rw [up_at]; decide, Inv.qs I F1⟩
end PureSmall
